/-! ===== what stays beside the world: words of nest mates, texts, tables ===== -/
def nestWs : List Cond := [
  .methodLinkNest RX11 15 yX9_init RX11,
  .methodLinkNest RX9 9 yX4_init RX11,
  .fieldLinkNest RX6 74 RX4 "voices" "[I" RX11,
  .fieldLinkNest RX6 50 RX4 "starts" "[I" RX11,
  .fieldLinkNest RX6 39 RX4 "lengths" "[I" RX11,
  .fieldLinkNest RX6 80 RX4 "pitches" "[I" RX11,
  .fieldLinkNest RX6 86 RX4 "marks" "[I" RX11,
  .fieldLinkNest RX6 25 RX4 "howMany" "I" RX11,
  .fieldLinkNest RX11 195 RX4 "howMany" "I" RX11,
  .methodLinkNest RX9 18 yX2_init RX11,
  .fieldLinkNest RX11 196 RX2 "howMany" "I" RX11,
  .methodLinkNest RX9 25 yX0_init RX11,
  .fieldLinkNest RX11 197 RX0 "howMany" "I" RX11,
  .fieldLinkNest RX6 19 RX9 "notes" "LStyleRows$Notes;" RX11,
  .fieldLinkNest RX11 72 RX9 "notes" "LStyleRows$Notes;" RX11,
  .fieldLinkNest RX11 90 RX9 "levels" "LStyleRows$Levels;" RX11,
  .fieldLinkNest RX6 111 RX9 "levels" "LStyleRows$Levels;" RX11,
  .fieldLinkNest RX11 104 RX9 "arcs" "LStyleRows$Arcs;" RX11,
  .methodLinkNest RX11 22 yX10_init RX11,
  .fieldLinkNest RX7 101 RX10 "length" "I" RX11,
  .fieldLinkNest RX11 199 RX10 "length" "I" RX11,
  .fieldLinkNest RX11 142 RX8 "rows" "[[I" RX11,
  .fieldLinkNest RX11 198 RX8 "howMany" "I" RX11,
  .methodLinkNest RX11 36 yX7_init RX11,
  .methodLinkNest RX11 43 yX6_init RX11,
  .methodLinkNest RX6 9 yX1_init RX11,
  .fieldLinkNest RX5 38 RX1 "rows" "[[I" RX11,
  .fieldLinkNest RX11 182 RX1 "rows" "[[I" RX11,
  .fieldLinkNest RX5 20 RX1 "howMany" "I" RX11,
  .fieldLinkNest RX11 177 RX1 "howMany" "I" RX11,
  .fieldLinkNest RX6 31 RX1 "tooMany" "Z" RX11,
  .fieldLinkNest RX11 159 RX6 "parts" "LStyleRows$Events;" RX11,
  .methodLinkNest RX11 50 yX5_init RX11,
  .methodLinkNest RX11 57 yX1_init RX11,
  .methodLinkNest RX4 31 yX11_isWithin RX11,
  .methodLinkNest RX2 30 yX11_quotient RX11,
  .methodLinkNest RX0 34 yX11_isWithin RX11,
  .methodLinkNest RX0 40 yX11_quotient RX11,
  .methodLinkNest RX7 83 yX11_isWithin RX11,
  .fieldLinkNest RX7 55 RX3 "FROM" "[I" RX11,
  .fieldLinkNest RX7 61 RX3 "TO" "[I" RX11,
  .methodLinkNest RX8 33 yX11_isWithin RX11,
  .methodLinkNest RX3 9 yX11_isWithin RX11,
  .fieldLinkNest RX8 41 RX3 "WITHOUT" "[I" RX11,
  .methodLinkNest RX6 162 yX11_quotient RX11,
  .methodLinkNest RX1 24 yX11_isWithin RX11]
def isNest (w : Cond) : Bool := match w with
  | .fieldLinkNest _ _ _ _ _ _ => true
  | .methodLinkNest _ _ _ _ => true
  | _ => false
theorem nest_all : ∀ w ∈ nestWs, isNest w = true := List.all_eq_true.mp rfl
theorem nw_X11_15 : (.methodLinkNest RX11 15 yX9_init RX11 : Cond) ∈ nestWs := List.mem_of_getElem? (i := 0) rfl
theorem nw_X9_9 : (.methodLinkNest RX9 9 yX4_init RX11 : Cond) ∈ nestWs := List.mem_of_getElem? (i := 1) rfl
theorem nw_X6_74 : (.fieldLinkNest RX6 74 RX4 "voices" "[I" RX11 : Cond) ∈ nestWs := List.mem_of_getElem? (i := 2) rfl
theorem nw_X6_50 : (.fieldLinkNest RX6 50 RX4 "starts" "[I" RX11 : Cond) ∈ nestWs := List.mem_of_getElem? (i := 3) rfl
theorem nw_X6_39 : (.fieldLinkNest RX6 39 RX4 "lengths" "[I" RX11 : Cond) ∈ nestWs := List.mem_of_getElem? (i := 4) rfl
theorem nw_X6_80 : (.fieldLinkNest RX6 80 RX4 "pitches" "[I" RX11 : Cond) ∈ nestWs := List.mem_of_getElem? (i := 5) rfl
theorem nw_X6_86 : (.fieldLinkNest RX6 86 RX4 "marks" "[I" RX11 : Cond) ∈ nestWs := List.mem_of_getElem? (i := 6) rfl
theorem nw_X6_25 : (.fieldLinkNest RX6 25 RX4 "howMany" "I" RX11 : Cond) ∈ nestWs := List.mem_of_getElem? (i := 7) rfl
theorem nw_X11_195 : (.fieldLinkNest RX11 195 RX4 "howMany" "I" RX11 : Cond) ∈ nestWs := List.mem_of_getElem? (i := 8) rfl
theorem nw_X9_18 : (.methodLinkNest RX9 18 yX2_init RX11 : Cond) ∈ nestWs := List.mem_of_getElem? (i := 9) rfl
theorem nw_X11_196 : (.fieldLinkNest RX11 196 RX2 "howMany" "I" RX11 : Cond) ∈ nestWs := List.mem_of_getElem? (i := 10) rfl
theorem nw_X9_25 : (.methodLinkNest RX9 25 yX0_init RX11 : Cond) ∈ nestWs := List.mem_of_getElem? (i := 11) rfl
theorem nw_X11_197 : (.fieldLinkNest RX11 197 RX0 "howMany" "I" RX11 : Cond) ∈ nestWs := List.mem_of_getElem? (i := 12) rfl
theorem nw_X6_19 : (.fieldLinkNest RX6 19 RX9 "notes" "LStyleRows$Notes;" RX11 : Cond) ∈ nestWs := List.mem_of_getElem? (i := 13) rfl
theorem nw_X11_72 : (.fieldLinkNest RX11 72 RX9 "notes" "LStyleRows$Notes;" RX11 : Cond) ∈ nestWs := List.mem_of_getElem? (i := 14) rfl
theorem nw_X11_90 : (.fieldLinkNest RX11 90 RX9 "levels" "LStyleRows$Levels;" RX11 : Cond) ∈ nestWs := List.mem_of_getElem? (i := 15) rfl
theorem nw_X6_111 : (.fieldLinkNest RX6 111 RX9 "levels" "LStyleRows$Levels;" RX11 : Cond) ∈ nestWs := List.mem_of_getElem? (i := 16) rfl
theorem nw_X11_104 : (.fieldLinkNest RX11 104 RX9 "arcs" "LStyleRows$Arcs;" RX11 : Cond) ∈ nestWs := List.mem_of_getElem? (i := 17) rfl
theorem nw_X11_22 : (.methodLinkNest RX11 22 yX10_init RX11 : Cond) ∈ nestWs := List.mem_of_getElem? (i := 18) rfl
theorem nw_X7_101 : (.fieldLinkNest RX7 101 RX10 "length" "I" RX11 : Cond) ∈ nestWs := List.mem_of_getElem? (i := 19) rfl
theorem nw_X11_199 : (.fieldLinkNest RX11 199 RX10 "length" "I" RX11 : Cond) ∈ nestWs := List.mem_of_getElem? (i := 20) rfl
theorem nw_X11_142 : (.fieldLinkNest RX11 142 RX8 "rows" "[[I" RX11 : Cond) ∈ nestWs := List.mem_of_getElem? (i := 21) rfl
theorem nw_X11_198 : (.fieldLinkNest RX11 198 RX8 "howMany" "I" RX11 : Cond) ∈ nestWs := List.mem_of_getElem? (i := 22) rfl
theorem nw_X11_36 : (.methodLinkNest RX11 36 yX7_init RX11 : Cond) ∈ nestWs := List.mem_of_getElem? (i := 23) rfl
theorem nw_X11_43 : (.methodLinkNest RX11 43 yX6_init RX11 : Cond) ∈ nestWs := List.mem_of_getElem? (i := 24) rfl
theorem nw_X6_9 : (.methodLinkNest RX6 9 yX1_init RX11 : Cond) ∈ nestWs := List.mem_of_getElem? (i := 25) rfl
theorem nw_X5_38 : (.fieldLinkNest RX5 38 RX1 "rows" "[[I" RX11 : Cond) ∈ nestWs := List.mem_of_getElem? (i := 26) rfl
theorem nw_X11_182 : (.fieldLinkNest RX11 182 RX1 "rows" "[[I" RX11 : Cond) ∈ nestWs := List.mem_of_getElem? (i := 27) rfl
theorem nw_X5_20 : (.fieldLinkNest RX5 20 RX1 "howMany" "I" RX11 : Cond) ∈ nestWs := List.mem_of_getElem? (i := 28) rfl
theorem nw_X11_177 : (.fieldLinkNest RX11 177 RX1 "howMany" "I" RX11 : Cond) ∈ nestWs := List.mem_of_getElem? (i := 29) rfl
theorem nw_X6_31 : (.fieldLinkNest RX6 31 RX1 "tooMany" "Z" RX11 : Cond) ∈ nestWs := List.mem_of_getElem? (i := 30) rfl
theorem nw_X11_159 : (.fieldLinkNest RX11 159 RX6 "parts" "LStyleRows$Events;" RX11 : Cond) ∈ nestWs := List.mem_of_getElem? (i := 31) rfl
theorem nw_X11_50 : (.methodLinkNest RX11 50 yX5_init RX11 : Cond) ∈ nestWs := List.mem_of_getElem? (i := 32) rfl
theorem nw_X11_57 : (.methodLinkNest RX11 57 yX1_init RX11 : Cond) ∈ nestWs := List.mem_of_getElem? (i := 33) rfl
theorem nw_X4_31 : (.methodLinkNest RX4 31 yX11_isWithin RX11 : Cond) ∈ nestWs := List.mem_of_getElem? (i := 34) rfl
theorem nw_X2_30 : (.methodLinkNest RX2 30 yX11_quotient RX11 : Cond) ∈ nestWs := List.mem_of_getElem? (i := 35) rfl
theorem nw_X0_34 : (.methodLinkNest RX0 34 yX11_isWithin RX11 : Cond) ∈ nestWs := List.mem_of_getElem? (i := 36) rfl
theorem nw_X0_40 : (.methodLinkNest RX0 40 yX11_quotient RX11 : Cond) ∈ nestWs := List.mem_of_getElem? (i := 37) rfl
theorem nw_X7_83 : (.methodLinkNest RX7 83 yX11_isWithin RX11 : Cond) ∈ nestWs := List.mem_of_getElem? (i := 38) rfl
theorem nw_X7_55 : (.fieldLinkNest RX7 55 RX3 "FROM" "[I" RX11 : Cond) ∈ nestWs := List.mem_of_getElem? (i := 39) rfl
theorem nw_X7_61 : (.fieldLinkNest RX7 61 RX3 "TO" "[I" RX11 : Cond) ∈ nestWs := List.mem_of_getElem? (i := 40) rfl
theorem nw_X8_33 : (.methodLinkNest RX8 33 yX11_isWithin RX11 : Cond) ∈ nestWs := List.mem_of_getElem? (i := 41) rfl
theorem nw_X3_9 : (.methodLinkNest RX3 9 yX11_isWithin RX11 : Cond) ∈ nestWs := List.mem_of_getElem? (i := 42) rfl
theorem nw_X8_41 : (.fieldLinkNest RX8 41 RX3 "WITHOUT" "[I" RX11 : Cond) ∈ nestWs := List.mem_of_getElem? (i := 43) rfl
theorem nw_X6_162 : (.methodLinkNest RX6 162 yX11_quotient RX11 : Cond) ∈ nestWs := List.mem_of_getElem? (i := 44) rfl
theorem nw_X1_24 : (.methodLinkNest RX1 24 yX11_isWithin RX11 : Cond) ∈ nestWs := List.mem_of_getElem? (i := 45) rfl
def lenS : List Nat := [5, 5, 4, 5, 6, 5, 4, 5, 5, 4, 4, 4, 5, 0, 5, 4]
def bytS : List (List Int32) := [[115, 104, 111, 114, 116], [112, 108, 97, 105, 110], [104, 101, 108, 100], [108, 101, 97, 115, 116], [97, 99, 99, 101, 110, 116], [102, 105, 114, 115, 116], [98, 101, 97, 116], [116, 114, 105, 108, 108], [117, 112, 112, 101, 114], [116, 117, 114, 110], [108, 101, 97, 110], [114, 111, 108, 108], [108, 111, 111, 115, 101], [], [118, 111, 105, 99, 101], [114, 97, 110, 107]]
def strRefs : List (String × Nat × String × Nat) := [(RX3, 15, "short", 0), (RX3, 17, "plain", 1), (RX3, 19, "held", 2), (RX3, 21, "least", 3), (RX3, 23, "accent", 4), (RX3, 25, "first", 5), (RX3, 27, "beat", 6), (RX3, 29, "trill", 7), (RX3, 31, "upper", 8), (RX3, 33, "turn", 9), (RX3, 35, "lean", 10), (RX3, 37, "roll", 11), (RX3, 39, "loose", 12), (RX3, 41, "", 13), (RX7, 38, "voice", 14), (RX7, 64, "rank", 15)]
theorem sr_X3_15 : ((RX3, 15, "short", 0) : String × Nat × String × Nat) ∈ strRefs := List.mem_of_getElem? (i := 0) rfl
theorem sr_X3_17 : ((RX3, 17, "plain", 1) : String × Nat × String × Nat) ∈ strRefs := List.mem_of_getElem? (i := 1) rfl
theorem sr_X3_19 : ((RX3, 19, "held", 2) : String × Nat × String × Nat) ∈ strRefs := List.mem_of_getElem? (i := 2) rfl
theorem sr_X3_21 : ((RX3, 21, "least", 3) : String × Nat × String × Nat) ∈ strRefs := List.mem_of_getElem? (i := 3) rfl
theorem sr_X3_23 : ((RX3, 23, "accent", 4) : String × Nat × String × Nat) ∈ strRefs := List.mem_of_getElem? (i := 4) rfl
theorem sr_X3_25 : ((RX3, 25, "first", 5) : String × Nat × String × Nat) ∈ strRefs := List.mem_of_getElem? (i := 5) rfl
theorem sr_X3_27 : ((RX3, 27, "beat", 6) : String × Nat × String × Nat) ∈ strRefs := List.mem_of_getElem? (i := 6) rfl
theorem sr_X3_29 : ((RX3, 29, "trill", 7) : String × Nat × String × Nat) ∈ strRefs := List.mem_of_getElem? (i := 7) rfl
theorem sr_X3_31 : ((RX3, 31, "upper", 8) : String × Nat × String × Nat) ∈ strRefs := List.mem_of_getElem? (i := 8) rfl
theorem sr_X3_33 : ((RX3, 33, "turn", 9) : String × Nat × String × Nat) ∈ strRefs := List.mem_of_getElem? (i := 9) rfl
theorem sr_X3_35 : ((RX3, 35, "lean", 10) : String × Nat × String × Nat) ∈ strRefs := List.mem_of_getElem? (i := 10) rfl
theorem sr_X3_37 : ((RX3, 37, "roll", 11) : String × Nat × String × Nat) ∈ strRefs := List.mem_of_getElem? (i := 11) rfl
theorem sr_X3_39 : ((RX3, 39, "loose", 12) : String × Nat × String × Nat) ∈ strRefs := List.mem_of_getElem? (i := 12) rfl
theorem sr_X3_41 : ((RX3, 41, "", 13) : String × Nat × String × Nat) ∈ strRefs := List.mem_of_getElem? (i := 13) rfl
theorem sr_X7_38 : ((RX7, 38, "voice", 14) : String × Nat × String × Nat) ∈ strRefs := List.mem_of_getElem? (i := 14) rfl
theorem sr_X7_64 : ((RX7, 64, "rank", 15) : String × Nat × String × Nat) ∈ strRefs := List.mem_of_getElem? (i := 15) rfl
def tblN (j : Nat) : String := match j with
  | 0 => "WITHOUT"
  | 1 => "FROM"
  | _ => "TO"
def tblV : List (List Int32) := [[50, 90, 100, 10, 16, 8, 4, 30, 0, 20, 40, 12, 0], [1, 1, 1, 1, 0, 0, 0, 1, 0, 1, 0, 0, 0], [100, 100, 100, 960, 127, 127, 127, 960, 1, 960, 960, 960, 99]]
def tb (j i : Nat) : Int32 := (tblV.getD j []).getD i 0
/-! ===== the pure words of the functions that the methods are ===== -/
def chk {α : Type} (t : Bool) (k : Option α) : Option α := match t with
  | true => k
  | false => none
theorem chk_some {α : Type} {t : Bool} {k : Option α} {r : α} (h : chk t k = some r) : t = true ∧ k = some r := by
  cases t with
  | true => exact ⟨rfl, h⟩
  | false => cases h
def bnd {α β : Type} (o : Option (α × St)) (f : α → St → Option β) : Option β := match o with
  | none => none
  | some r => f r.1 r.2
theorem bnd_some {α β : Type} {o : Option (α × St)} {f : α → St → Option β} {r : β} (h : bnd o f = some r) : ∃ q, o = some q ∧ f q.1 q.2 = some r := by
  cases o with
  | none => cases h
  | some q => exact ⟨q, rfl, h⟩
def vlet {α β : Type} (a : α) (f : α → β) : β := f a
theorem ite_t {α : Type} {c : Prop} {hc : Decidable c} {a b r : α} (h : (if c then a else b) = r) (q : c) : a = r := by rw [if_pos q] at h; exact h
theorem ite_f {α : Type} {c : Prop} {hc : Decidable c} {a b r : α} (h : (if c then a else b) = r) (q : ¬ c) : b = r := by rw [if_neg q] at h; exact h
def inb (i : Int32) (n : Nat) : Bool := decide (¬ (i < 0 ∨ n ≤ i.toNatClampNeg))
theorem inb_in {i : Int32} {n : Nat} (h : inb i n = true) : vp_in i n := show ¬ (i < 0 ∨ n ≤ i.toNatClampNeg) from of_decide_eq_true h
def nzI (x : Int32) : Bool := decide (¬ x = 0)
def nzL (x : Int64) : Bool := decide (¬ x = 0)
def isB (x : Int32) : Bool := decide (x = 0 ∨ x = 1)
def isL (r : Nat) : Bool := decide (r = 39 ∨ r = 40)
def ltN (i n : Nat) : Bool := decide (i < n)
def lus (x : Int64) (y : Int32) : Int64 := (x.toUInt64 >>> (y.toInt64.toUInt64 &&& Int64.toUInt64 63)).toInt64
def imin (x y : Int32) : Int32 := if y < x then y else x
def imax (x y : Int32) : Int32 := if x < y then y else x
def rd (S : St) (k : Nat) (i : Int32) : Int32 := gA S k i.toNatClampNeg
def rdL (S : St) (k : Nat) (i : Int32) : Int64 := gL S k i.toNatClampNeg
def wr (S : St) (k : Nat) (i x : Int32) : St := pA S k (upd (gA S k) i.toNatClampNeg x)
def wrL (S : St) (k : Nat) (i : Int32) (x : Int64) : St := pL S k (vp_updL (gL S k) i.toNatClampNeg x)
def tbr (j : Nat) (i : Int32) : Int32 := tb j i.toNatClampNeg
/-- a loop with fuel -/
def loopN {σ ρ : Type} (body : (σ → Option ρ) → σ → Option ρ) : Nat → σ → Option ρ
  | 0, _ => none
  | n + 1, s => body (loopN body n) s
theorem loop_sound {σ ρ : Type} {body : (σ → Option ρ) → σ → Option ρ} {P : σ → ρ → Prop} (h : ∀ rec : σ → Option ρ, (∀ s r, rec s = some r → P s r) → ∀ s r, body rec s = some r → P s r) : ∀ (n : Nat) (s : σ) (r : ρ), loopN body n s = some r → P s r
  | 0, _, _, q => by cases q
  | n + 1, s, r, q => h (loopN body n) (loop_sound h n) s r q
def fuel : Nat := 1000000
/-! ===== the environment ===== -/
theorem nest_form {w : Cond} (h : isNest w = true) : (∃ a i b n d q, w = .fieldLinkNest a i b n d q) ∨ ∃ a i x q, w = .methodLinkNest a i x q := by
  cases w <;> first | exact Or.inl ⟨_, _, _, _, _, _, rfl⟩ | exact Or.inr ⟨_, _, _, _, rfl⟩ | cases h
theorem nest_warm {w : Cond} (h : isNest w = true) {s U : State} (hW : s.WarmedH U.vm) (hZ : va_Nw w s) : va_Nw w U := by
  rcases nest_form h with ⟨a, i, b, n, d, q, rfl⟩ | ⟨a, i, x, q, rfl⟩
  · exact va_Nw.warmF hW hZ
  · exact va_Nw.warmM hW hZ
theorem nest_tab {w : Cond} (h : isNest w = true) : w.onTables = true := by
  rcases nest_form h with ⟨a, i, b, n, d, q, rfl⟩ | ⟨a, i, x, q, rfl⟩ <;> rfl
def EnvP (b : Bw) (A : Nat → Prop) (U : State) (H : Heap) : Prop :=
  (∀ w ∈ nestWs, va_Nw w U) ∧ vk_S 16 lenS bytS (bK b) (bV b) A U H ∧ (∀ q ∈ strRefs, vk_R q.1 q.2.1 q.2.2.1 (bK b q.2.2.2) U) ∧ va_Z "java/lang/String" "COMPACT_STRINGS" "Z" (.int 1) A U H ∧ va_Zq "jdk/internal/util/Preconditions" "SIOOBE_FORMATTER" "Ljava/util/function/BiFunction;" A U H ∧ (∀ j, j < 3 → va_Z RX3 (tblN j) "[I" (.ref (bT b j)) A U H ∧ va_T .int (bT b j) 13 (fun i => .int (tb j i)) A U H)
theorem EnvP.warm {b : Bw} {A : Nat → Prop} {s U : State} {H : Heap} (hW : s.WarmedH U.vm) (h : EnvP b A s H) : EnvP b A U H := by
  obtain ⟨h1, h2, h3, h4, h5, h6⟩ := h
  exact ⟨fun w hw => nest_warm (nest_all w hw) hW (h1 w hw), h2.moved hW.alike, fun q hq => vk_R.warm hW (h3 q hq), h4.moved hW.alike, h5.moved hW.alike, fun j hj => ⟨(h6 j hj).1.moved hW.alike, (h6 j hj).2.moved hW.alike⟩⟩
theorem EnvP.same {b : Bw} {A : Nat → Prop} {s U : State} {H : Heap} (hv : U.vm = s.vm) (h : EnvP b A s H) : EnvP b A U H := by
  obtain ⟨h1, h2, h3, h4, h5, h6⟩ := h
  have ha : s.vm.Alike U.vm := by rw [hv]; exact Vm.Alike.refl s.vm
  exact ⟨fun w hw => va_Nw.same (nest_tab (nest_all w hw)) hv.symm (h1 w hw), h2.moved ha, fun q hq => vk_R.same hv (h3 q hq), h4.moved ha, h5.moved ha, fun j hj => ⟨(h6 j hj).1.moved ha, (h6 j hj).2.moved ha⟩⟩
theorem EnvP.kept {b : Bw} {A : Nat → Prop} {U : State} {H H1 : Heap} (h : EnvP b A U H) (hq : ∀ a : Nat, a < H.size → ¬ A a → H1[a]? = H[a]?) : EnvP b A U H1 := by
  obtain ⟨h1, h2, h3, h4, h5, h6⟩ := h
  exact ⟨h1, h2.kept hq, h3, h4.kept hq, h5.kept hq, fun j hj => ⟨(h6 j hj).1.kept hq, (h6 j hj).2.kept hq⟩⟩
theorem EnvP.narrow {b : Bw} {A B : Nat → Prop} {U : State} {H : Heap} (h : EnvP b A U H) (hAB : ∀ q, B q → A q) : EnvP b B U H := by
  obtain ⟨h1, h2, h3, h4, h5, h6⟩ := h
  exact ⟨h1, h2.narrow hAB, h3, h4.narrow hAB, h5.narrow hAB, fun j hj => ⟨(h6 j hj).1.narrow hAB, (h6 j hj).2.narrow hAB⟩⟩
/-! ===== contracts over states ===== -/
def AW (b : Bw) (sz : Nat) : Nat → Prop := fun q => (∃ k, k < nW ∧ q = bad b k) ∨ sz ≤ q
def adOK (b : Bw) : Prop := ∀ i j, i < nW → j < nW → bad b i = bad b j → i = j
theorem world_at {b : Bw} {S : St} {k : Nat} {q : Nat × va_E} (h : (world b S)[k]? = some q) : k < nW ∧ q.1 = bad b k := by
  have h1 : ((world b S).map Prod.fst)[k]? = some q.1 := by rw [List.getElem?_map, h]; rfl
  rw [world_fst, List.getElem?_map] at h1
  have hk : k < nW := by
    have := (List.getElem?_eq_some_iff.mp h).1
    rwa [world_len] at this
  rw [List.getElem?_range hk] at h1
  exact ⟨hk, (Option.some.inj h1).symm⟩
theorem world_D {b : Bw} (S : St) {A : Nat → Prop} (h : adOK b) (hA : ∀ k, k < nW → A (bad b k)) : va_D A (world b S) := by
  refine ⟨fun i j p q hi hj e => ?_, fun k q hk => ?_⟩
  · obtain ⟨a1, a2⟩ := world_at hi
    obtain ⟨b1, b2⟩ := world_at hj
    exact h i j a1 b1 (by rw [← a2, ← b2]; exact e)
  · obtain ⟨a1, a2⟩ := world_at hk
    rw [a2]
    exact hA k a1
theorem AW_in {b : Bw} {sz k : Nat} (h : k < nW) : AW b sz (bad b k) := Or.inl ⟨k, h, rfl⟩
def PreW (b : Bw) (S : St) (sz : Nat) (U : State) : Prop := U.heap.size = sz ∧ va_P (bD b) vwCl (world b S) U.heap ∧ va_K (bD b) vwCl (btys b) U ∧ adOK b ∧ EnvP b (AW b sz) U U.heap
def QW (b : Bw) (v : Option Value) (S1 : St) (A : Nat → Prop) : Array Value → State → Outcome → State → Prop := fun _ st oc t => oc = .returned v ∧ va_P (bD b) vwCl (world b S1) t.heap ∧ va_F A st t
/-- a contract: where the function answers, the method does -/
def Ct {ρ : Type} (l : Launch) (b : Bw) (y : MethodName) (ws : List Cond) (rm : Room) (vs : List Value) (S : St) (mk : ρ → Option Value) (o : Option (ρ × St)) : Prop := ∀ (sz : Nat) (r : ρ × St), o = some r → Met l y ws rm (va_Pc vs (PreW b S sz)) (QW b (mk r.1) r.2 (AW b sz)) 0 0 (AW b sz)
def mkI (x : Int32) : Option Value := some (.int x)
def mkL (x : Int64) : Option Value := some (.long x)
def mkV (_ : Unit) : Option Value := none
def mkS (b : Bw) (i : Nat) : Option Value := some (.ref (bK b i))
abbrev MC : Type := Program × Launch × Env × Room × State × MethodId × Array Value × List Frame × Method × Code × Bw × Nat × Nat
def Xl (X : MC) : Launch := X.2.1
def Xb (X : MC) : Bw := X.2.2.2.2.2.2.2.2.2.2.1
abbrev ad (X : MC) (k : Nat) : Nat := bad (Xb X) k
/-- the machine stands at a frame, and the heap holds the state S -/
def G (X : MC) (Q : State → Prop) (S : St) (pc : Nat) (lv : List (Nat × Value)) (st : List Value) : Prop := match X with
  | (p, l, e, R, s, m, args, below, meth, c, b, kc, ks) => ∀ (H : Heap) (locs : List Loc) (ls : Array Slot), va_P (bD b) vwCl (world b S) H → va_S (AW b s.heap.size) s.heap H locs → lv_has ls c.maxLocals lv → W p l e R s m args below meth c H locs kc ks Q (F0 m pc ls st)
def Cx (X : MC) (cc : ByteArray) (own : String) (Ts : List Cond) (nL : Nat) (rm : Room) (ret : Option FieldType) : Prop := match X with
  | (p, l, e, R, s, m, args, below, meth, c, b, kc, ks) => p.tables.exec = Jvm.exec ∧ c.code = cc ∧ c.maxLocals = nL ∧ s.vm.findClass own = some m.cls ∧ (∀ w ∈ Ts, w.before args s = true) ∧ meth.sig.returnType = ret ∧ meth.locks = false ∧ R = rm ∧ va_K (bD b) vwCl (btys b) s ∧ adOK b ∧ EnvP b (AW b s.heap.size) s s.heap ∧ kc ≤ R.cells ∧ ks ≤ R.slots
def QM {ρ : Type} (mk : ρ → Option Value) (X : MC) (r : ρ × St) : State → Prop := match X with
  | (p, l, e, R, s, m, args, below, meth, c, b, kc, ks) => MQ below (QW b (mk r.1) r.2 (AW b s.heap.size)) args s kc ks (AW b s.heap.size)
theorem PreW_calling {b : Bw} {S : St} {sz : Nat} {vs : List Value} : FrameBlind (va_Pc vs (PreW b S sz)) := by
  intro a U g mk h
  obtain ⟨h0, h1, h2, h3, h4, h5⟩ := h
  exact ⟨h0, h1, h2, va_K.moved (u := U) (U := U.calling g mk a) (Vm.Alike.refl U.vm) h3, h4, EnvP.same (s := U) (U := U.calling g mk a) rfl h5⟩
theorem Met_ofWF {l : Launch} {y : MethodName} {ws ws' : List Cond} {rm : Room} {Pc : Array Value → State → Prop} {Qc : Array Value → State → Outcome → State → Prop} {mc ms : Nat} {free : Addr → Prop} {cc : ByteArray} {maxL : Nat} {ret : Option FieldType}
    (hy : plainFor y = true) (hw : ws = Cond.code y cc maxL ret :: ws')
    (body : ∀ p e s m args below meth c s₁, BodyLoose p l y (headSpec ws rm) cc maxL ret e s m args below meth c s₁ → c.maxLocals = maxL → Pc args s →
      W p l e (headSpec ws rm).room s m args below meth c s.heap [] 0 0 (MQ below Qc args s mc ms free) (entryFrame m args maxL)) : Met l y ws rm Pc Qc mc ms free := by
  refine MetFree.of_bodySF (code := cc) (maxLocals := maxL) (ret := ret) hy ?_ ?_
  · intro args s m h hn
    obtain ⟨meth, c, h1, h2, h3, h4, h5, h6, -, -⟩ := Cond.code_spec hn (atoms_spec (ws := ws) h _ (by rw [hw]; exact List.mem_cons_self))
    exact ⟨meth, c, h1, h2, h3, h4, h5, h6⟩
  · intro p e s m args below meth c s₁ B hml hP _
    have hh0 : s₁.heap = s.heap := by rw [B.state]; rfl
    obtain ⟨t, a1, o, b1, b2, b3⟩ := body p e s m args below meth c s₁ B hml hP s₁ hh0 (Stand.of_body B)
    exact ⟨t, o, a1, b1, b2, ⟨b3.1, b3.2⟩⟩
theorem Ct.of {ρ : Type} {l : Launch} {b : Bw} {y : MethodName} {ws ws' : List Cond} {rm : Room} {vs : List Value} {S : St} {mk : ρ → Option Value} {o : Option (ρ × St)} {cc : ByteArray} {nL : Nat} {ret : Option FieldType} (hy : plainFor y = true) (hw : ws = .code y cc nL ret :: ws') (hvs : (lg_sl vs).length ≤ nL)
    (body : ∀ X : MC, Cx X cc y.cls ws nL rm ret → Xl X = l → Xb X = b → ∀ r, o = some r → G X (QM mk X r) S 0 (lv_args 0 vs) []) : Ct l b y ws rm vs S mk o := by
  intro sz r hor
  refine Met_ofWF (cc := cc) (maxL := nL) (ret := ret) hy hw ?_
  intro p e s m args below meth c s₁ B hml hv
  obtain ⟨rfl, hsz, hP, hK, hA, hE⟩ := hv
  subst hsz
  have hl := lv_entry vs (n := nL) hvs
  rw [lg_entry_eq]
  have hX := body (p, l, e, (headSpec ws rm).room, s, m, vs.toArray, below, meth, c, b, 0, 0) ⟨B.exec, B.bytes, hml, findClass_of_methodNamed B.named, atoms_spec (ws := ws) B.pre, B.returns, B.notSynchronized, rfl, hK, hA, hE, Nat.zero_le _, Nat.zero_le _⟩ rfl rfl r hor
  exact hX s.heap [] _ hP va_S.rf (by rw [hml]; exact hl)
theorem sw_ne {x k : Int32} (h : ¬ x = k) : x.toInt ≠ k.toInt := fun e => h (Int32.toInt_inj.mp e)
theorem sw_out_2 {x : Int32} (h0 : ¬ x = 0) (h1 : ¬ x = 1) (h2 : ¬ x = 2) : x.toInt < 0 ∨ 2 < x.toInt := by
  have e0 : x.toInt ≠ 0 := sw_ne h0
  have e1 : x.toInt ≠ 1 := sw_ne h1
  have e2 : x.toInt ≠ 2 := sw_ne h2
  omega
theorem sw_out_3 {x : Int32} (h0 : ¬ x = 0) (h1 : ¬ x = 1) (h2 : ¬ x = 2) (h3 : ¬ x = 3) : x.toInt < 0 ∨ 3 < x.toInt := by
  have e0 : x.toInt ≠ 0 := sw_ne h0
  have e1 : x.toInt ≠ 1 := sw_ne h1
  have e2 : x.toInt ≠ 2 := sw_ne h2
  have e3 : x.toInt ≠ 3 := sw_ne h3
  omega
theorem sw_out_5 {x : Int32} (h0 : ¬ x = 0) (h1 : ¬ x = 1) (h2 : ¬ x = 2) (h3 : ¬ x = 3) (h4 : ¬ x = 4) (h5 : ¬ x = 5) : x.toInt < 0 ∨ 5 < x.toInt := by
  have e0 : x.toInt ≠ 0 := sw_ne h0
  have e1 : x.toInt ≠ 1 := sw_ne h1
  have e2 : x.toInt ≠ 2 := sw_ne h2
  have e3 : x.toInt ≠ 3 := sw_ne h3
  have e4 : x.toInt ≠ 4 := sw_ne h4
  have e5 : x.toInt ≠ 5 := sw_ne h5
  omega
theorem sw_out_11 {x : Int32} (h0 : ¬ x = 0) (h1 : ¬ x = 1) (h2 : ¬ x = 2) (h3 : ¬ x = 3) (h4 : ¬ x = 4) (h5 : ¬ x = 5) (h6 : ¬ x = 6) (h7 : ¬ x = 7) (h8 : ¬ x = 8) (h9 : ¬ x = 9) (h10 : ¬ x = 10) (h11 : ¬ x = 11) : x.toInt < 0 ∨ 11 < x.toInt := by
  have e0 : x.toInt ≠ 0 := sw_ne h0
  have e1 : x.toInt ≠ 1 := sw_ne h1
  have e2 : x.toInt ≠ 2 := sw_ne h2
  have e3 : x.toInt ≠ 3 := sw_ne h3
  have e4 : x.toInt ≠ 4 := sw_ne h4
  have e5 : x.toInt ≠ 5 := sw_ne h5
  have e6 : x.toInt ≠ 6 := sw_ne h6
  have e7 : x.toInt ≠ 7 := sw_ne h7
  have e8 : x.toInt ≠ 8 := sw_ne h8
  have e9 : x.toInt ≠ 9 := sw_ne h9
  have e10 : x.toInt ≠ 10 := sw_ne h10
  have e11 : x.toInt ≠ 11 := sw_ne h11
  omega
theorem sw_out_12 {x : Int32} (h0 : ¬ x = 0) (h1 : ¬ x = 1) (h2 : ¬ x = 2) (h3 : ¬ x = 3) (h4 : ¬ x = 4) (h5 : ¬ x = 5) (h6 : ¬ x = 6) (h7 : ¬ x = 7) (h8 : ¬ x = 8) (h9 : ¬ x = 9) (h10 : ¬ x = 10) (h11 : ¬ x = 11) (h12 : ¬ x = 12) : x.toInt < 0 ∨ 12 < x.toInt := by
  have e0 : x.toInt ≠ 0 := sw_ne h0
  have e1 : x.toInt ≠ 1 := sw_ne h1
  have e2 : x.toInt ≠ 2 := sw_ne h2
  have e3 : x.toInt ≠ 3 := sw_ne h3
  have e4 : x.toInt ≠ 4 := sw_ne h4
  have e5 : x.toInt ≠ 5 := sw_ne h5
  have e6 : x.toInt ≠ 6 := sw_ne h6
  have e7 : x.toInt ≠ 7 := sw_ne h7
  have e8 : x.toInt ≠ 8 := sw_ne h8
  have e9 : x.toInt ≠ 9 := sw_ne h9
  have e10 : x.toInt ≠ 10 := sw_ne h10
  have e11 : x.toInt ≠ 11 := sw_ne h11
  have e12 : x.toInt ≠ 12 := sw_ne h12
  omega
theorem sw_out_17 {x : Int32} (h0 : ¬ x = 0) (h1 : ¬ x = 1) (h2 : ¬ x = 2) (h3 : ¬ x = 3) (h4 : ¬ x = 4) (h5 : ¬ x = 5) (h6 : ¬ x = 6) (h7 : ¬ x = 7) (h8 : ¬ x = 8) (h9 : ¬ x = 9) (h10 : ¬ x = 10) (h11 : ¬ x = 11) (h12 : ¬ x = 12) (h13 : ¬ x = 13) (h14 : ¬ x = 14) (h15 : ¬ x = 15) (h16 : ¬ x = 16) (h17 : ¬ x = 17) : x.toInt < 0 ∨ 17 < x.toInt := by
  have e0 : x.toInt ≠ 0 := sw_ne h0
  have e1 : x.toInt ≠ 1 := sw_ne h1
  have e2 : x.toInt ≠ 2 := sw_ne h2
  have e3 : x.toInt ≠ 3 := sw_ne h3
  have e4 : x.toInt ≠ 4 := sw_ne h4
  have e5 : x.toInt ≠ 5 := sw_ne h5
  have e6 : x.toInt ≠ 6 := sw_ne h6
  have e7 : x.toInt ≠ 7 := sw_ne h7
  have e8 : x.toInt ≠ 8 := sw_ne h8
  have e9 : x.toInt ≠ 9 := sw_ne h9
  have e10 : x.toInt ≠ 10 := sw_ne h10
  have e11 : x.toInt ≠ 11 := sw_ne h11
  have e12 : x.toInt ≠ 12 := sw_ne h12
  have e13 : x.toInt ≠ 13 := sw_ne h13
  have e14 : x.toInt ≠ 14 := sw_ne h14
  have e15 : x.toInt ≠ 15 := sw_ne h15
  have e16 : x.toInt ≠ 16 := sw_ne h16
  have e17 : x.toInt ≠ 17 := sw_ne h17
  omega

section GROWS
variable {X : MC} {Q : State → Prop} {S : St} {pc : Nat} {lv : List (Nat × Value)} {st : List Value} {cc : ByteArray} {own : String} {Ts : List Cond} {nL : Nat} {rm : Room} {ret : Option FieldType} {α : Type} {r0 : α}
theorem g_iload_n (C : Cx X cc own Ts nL rm ret) {k : Fin 4} {i : Nat} {x : Int32} (hd : decode cc pc = .ok (.iload_n k, 1)) (hi : (k : Nat) = i) (n : Nat) (hn : lv[n]? = some (i, .int x)) (kk : G X Q S (pc + 1) lv (.int x :: st)) : G X Q S pc lv st := by
  obtain ⟨p, l, e, R, s, m, args, below, meth, c, b, kc, ks⟩ := X
  obtain ⟨hx, hb, hml, hown, hts, hr, hlk, rfl, hK, hA, hE, hkc, hks⟩ := C
  intro H locs ls hP hS hl
  exact lv_iload_n hx hb hd hi (lv_at hl n hn) (kk H locs ls hP hS hl)
theorem g_iload (C : Cx X cc own Ts nL rm ret) {i : Nat} {x : Int32} (hd : decode cc pc = .ok (.iload i, 2)) (n : Nat) (hn : lv[n]? = some (i, .int x)) (kk : G X Q S (pc + 2) lv (.int x :: st)) : G X Q S pc lv st := by
  obtain ⟨p, l, e, R, s, m, args, below, meth, c, b, kc, ks⟩ := X
  obtain ⟨hx, hb, hml, hown, hts, hr, hlk, rfl, hK, hA, hE, hkc, hks⟩ := C
  intro H locs ls hP hS hl
  exact lv_iload hx hb hd (lv_at hl n hn) (kk H locs ls hP hS hl)
theorem g_lload_n (C : Cx X cc own Ts nL rm ret) {k : Fin 4} {i : Nat} {x : Int64} (hd : decode cc pc = .ok (.lload_n k, 1)) (hi : (k : Nat) = i) (n : Nat) (hn : lv[n]? = some (i, .long x)) (kk : G X Q S (pc + 1) lv (.long x :: st)) : G X Q S pc lv st := by
  obtain ⟨p, l, e, R, s, m, args, below, meth, c, b, kc, ks⟩ := X
  obtain ⟨hx, hb, hml, hown, hts, hr, hlk, rfl, hK, hA, hE, hkc, hks⟩ := C
  intro H locs ls hP hS hl
  exact lv_lload_n hx hb hd hi (lv_at hl n hn) (kk H locs ls hP hS hl)
theorem g_lload (C : Cx X cc own Ts nL rm ret) {i : Nat} {x : Int64} (hd : decode cc pc = .ok (.lload i, 2)) (n : Nat) (hn : lv[n]? = some (i, .long x)) (kk : G X Q S (pc + 2) lv (.long x :: st)) : G X Q S pc lv st := by
  obtain ⟨p, l, e, R, s, m, args, below, meth, c, b, kc, ks⟩ := X
  obtain ⟨hx, hb, hml, hown, hts, hr, hlk, rfl, hK, hA, hE, hkc, hks⟩ := C
  intro H locs ls hP hS hl
  exact lv_lload hx hb hd (lv_at hl n hn) (kk H locs ls hP hS hl)
theorem g_aload_n (C : Cx X cc own Ts nL rm ret) {k : Fin 4} {i : Nat} {x : Nat} (hd : decode cc pc = .ok (.aload_n k, 1)) (hi : (k : Nat) = i) (n : Nat) (hn : lv[n]? = some (i, .ref x)) (kk : G X Q S (pc + 1) lv (.ref x :: st)) : G X Q S pc lv st := by
  obtain ⟨p, l, e, R, s, m, args, below, meth, c, b, kc, ks⟩ := X
  obtain ⟨hx, hb, hml, hown, hts, hr, hlk, rfl, hK, hA, hE, hkc, hks⟩ := C
  intro H locs ls hP hS hl
  exact lv_aload_n hx hb hd hi (lv_at hl n hn) (kk H locs ls hP hS hl)
theorem g_aload (C : Cx X cc own Ts nL rm ret) {i : Nat} {x : Nat} (hd : decode cc pc = .ok (.aload i, 2)) (n : Nat) (hn : lv[n]? = some (i, .ref x)) (kk : G X Q S (pc + 2) lv (.ref x :: st)) : G X Q S pc lv st := by
  obtain ⟨p, l, e, R, s, m, args, below, meth, c, b, kc, ks⟩ := X
  obtain ⟨hx, hb, hml, hown, hts, hr, hlk, rfl, hK, hA, hE, hkc, hks⟩ := C
  intro H locs ls hP hS hl
  exact lv_aload hx hb hd (lv_at hl n hn) (kk H locs ls hP hS hl)
theorem g_iconst (C : Cx X cc own Ts nL rm ret) {n : Int} {v : Int32} (hd : decode cc pc = .ok (.iconst n, 1)) (hv : Int32.ofInt n = v) (kk : G X Q S (pc + 1) lv (.int v :: st)) : G X Q S pc lv st := by
  obtain ⟨p, l, e, R, s, m, args, below, meth, c, b, kc, ks⟩ := X
  obtain ⟨hx, hb, hml, hown, hts, hr, hlk, rfl, hK, hA, hE, hkc, hks⟩ := C
  intro H locs ls hP hS hl
  exact lv_iconst hx hb hd hv (kk H locs ls hP hS hl)
theorem g_bipush (C : Cx X cc own Ts nL rm ret) {n : Int} {v : Int32} (hd : decode cc pc = .ok (.bipush n, 2)) (hv : (Int8.ofInt n).toInt32 = v) (kk : G X Q S (pc + 2) lv (.int v :: st)) : G X Q S pc lv st := by
  obtain ⟨p, l, e, R, s, m, args, below, meth, c, b, kc, ks⟩ := X
  obtain ⟨hx, hb, hml, hown, hts, hr, hlk, rfl, hK, hA, hE, hkc, hks⟩ := C
  intro H locs ls hP hS hl
  exact lv_bipush hx hb hd hv (kk H locs ls hP hS hl)
theorem g_sipush (C : Cx X cc own Ts nL rm ret) {n : Int} {v : Int32} (hd : decode cc pc = .ok (.sipush n, 3)) (hv : (Int16.ofInt n).toInt32 = v) (kk : G X Q S (pc + 3) lv (.int v :: st)) : G X Q S pc lv st := by
  obtain ⟨p, l, e, R, s, m, args, below, meth, c, b, kc, ks⟩ := X
  obtain ⟨hx, hb, hml, hown, hts, hr, hlk, rfl, hK, hA, hE, hkc, hks⟩ := C
  intro H locs ls hP hS hl
  exact lv_sipush hx hb hd hv (kk H locs ls hP hS hl)
theorem g_lconst (C : Cx X cc own Ts nL rm ret) {n : Fin 2} {v : Int64} (hd : decode cc pc = .ok (.lconst n, 1)) (hv : Int64.ofNat (n : Nat) = v) (kk : G X Q S (pc + 1) lv (.long v :: st)) : G X Q S pc lv st := by
  obtain ⟨p, l, e, R, s, m, args, below, meth, c, b, kc, ks⟩ := X
  obtain ⟨hx, hb, hml, hown, hts, hr, hlk, rfl, hK, hA, hE, hkc, hks⟩ := C
  intro H locs ls hP hS hl
  exact lv_lconst hx hb hd hv (kk H locs ls hP hS hl)
theorem g_ldc (C : Cx X cc own Ts nL rm ret) {index : Nat} {v : Int32} (hw : Cond.constant own index v ∈ Ts) (hd : decode cc pc = .ok (.ldc index, 2)) (kk : G X Q S (pc + 2) lv (.int v :: st)) : G X Q S pc lv st := by
  obtain ⟨p, l, e, R, s, m, args, below, meth, c, b, kc, ks⟩ := X
  obtain ⟨hx, hb, hml, hown, hts, hr, hlk, rfl, hK, hA, hE, hkc, hks⟩ := C
  intro H locs ls hP hS hl
  exact lv_ldc hx hb hown (hts _ hw) hd (kk H locs ls hP hS hl)
theorem g_ldc2 (C : Cx X cc own Ts nL rm ret) {index : Nat} {v : Int64} (hw : Cond.constantLong own index v ∈ Ts) (hd : decode cc pc = .ok (.ldc2_w index, 3)) (kk : G X Q S (pc + 3) lv (.long v :: st)) : G X Q S pc lv st := by
  obtain ⟨p, l, e, R, s, m, args, below, meth, c, b, kc, ks⟩ := X
  obtain ⟨hx, hb, hml, hown, hts, hr, hlk, rfl, hK, hA, hE, hkc, hks⟩ := C
  intro H locs ls hP hS hl
  exact lv_ldc2 hx hb hown (hts _ hw) hd (kk H locs ls hP hS hl)
theorem g_ldcS (C : Cx X cc own Ts nL rm ret) {index i : Nat} {tx : String} (hw : (own, index, tx, i) ∈ strRefs) (hd : decode cc pc = .ok (.ldc index, 2)) (kk : G X Q S (pc + 2) lv (.ref (bK (Xb X) i) :: st)) : G X Q S pc lv st := by
  obtain ⟨p, l, e, R, s, m, args, below, meth, c, b, kc, ks⟩ := X
  obtain ⟨hx, hb, hml, hown, hts, hr, hlk, rfl, hK, hA, hE, hkc, hks⟩ := C
  intro H locs ls hP hS hl
  exact va_ldcS hx hb hown (hE.2.2.1 _ hw) hd (kk H locs ls hP hS hl)
theorem g_istore_n (C : Cx X cc own Ts nL rm ret) {k : Fin 4} {i : Nat} {x : Int32} (lv1 : List (Nat × Value)) (hd : decode cc pc = .ok (.istore_n k, 1)) (hi : (k : Nat) = i) (hn : i < nL) (hq : (i, Value.int x) :: lv.filter (fun q => !(q.1 == i) && !(q.1 + 1 == i && q.2.category == 2)) = lv1) (kk : G X Q S (pc + 1) lv1 st) : G X Q S pc lv (.int x :: st) := by
  obtain ⟨p, l, e, R, s, m, args, below, meth, c, b, kc, ks⟩ := X
  obtain ⟨hx, hb, hml, hown, hts, hr, hlk, rfl, hK, hA, hE, hkc, hks⟩ := C
  intro H locs ls hP hS hl
  exact lv_istore_n hx hb hd hi hl (by rw [hml]; exact hn) hq (fun ls1 hl1 => kk H locs ls1 hP hS hl1)
theorem g_istore (C : Cx X cc own Ts nL rm ret) {i : Nat} {x : Int32} (lv1 : List (Nat × Value)) (hd : decode cc pc = .ok (.istore i, 2)) (hn : i < nL) (hq : (i, Value.int x) :: lv.filter (fun q => !(q.1 == i) && !(q.1 + 1 == i && q.2.category == 2)) = lv1) (kk : G X Q S (pc + 2) lv1 st) : G X Q S pc lv (.int x :: st) := by
  obtain ⟨p, l, e, R, s, m, args, below, meth, c, b, kc, ks⟩ := X
  obtain ⟨hx, hb, hml, hown, hts, hr, hlk, rfl, hK, hA, hE, hkc, hks⟩ := C
  intro H locs ls hP hS hl
  exact lv_istore hx hb hd hl (by rw [hml]; exact hn) hq (fun ls1 hl1 => kk H locs ls1 hP hS hl1)
theorem g_lstore_n (C : Cx X cc own Ts nL rm ret) {k : Fin 4} {i : Nat} {x : Int64} (lv1 : List (Nat × Value)) (hd : decode cc pc = .ok (.lstore_n k, 1)) (hi : (k : Nat) = i) (hn : i + 1 < nL) (hq : (i, Value.long x) :: lv.filter (fun q => !(q.1 == i) && (!(q.1 == i + 1) && !(q.1 + 1 == i && q.2.category == 2))) = lv1) (kk : G X Q S (pc + 1) lv1 st) : G X Q S pc lv (.long x :: st) := by
  obtain ⟨p, l, e, R, s, m, args, below, meth, c, b, kc, ks⟩ := X
  obtain ⟨hx, hb, hml, hown, hts, hr, hlk, rfl, hK, hA, hE, hkc, hks⟩ := C
  intro H locs ls hP hS hl
  exact lv_lstore_n hx hb hd hi hl (by rw [hml]; exact hn) hq (fun ls1 hl1 => kk H locs ls1 hP hS hl1)
theorem g_lstore (C : Cx X cc own Ts nL rm ret) {i : Nat} {x : Int64} (lv1 : List (Nat × Value)) (hd : decode cc pc = .ok (.lstore i, 2)) (hn : i + 1 < nL) (hq : (i, Value.long x) :: lv.filter (fun q => !(q.1 == i) && (!(q.1 == i + 1) && !(q.1 + 1 == i && q.2.category == 2))) = lv1) (kk : G X Q S (pc + 2) lv1 st) : G X Q S pc lv (.long x :: st) := by
  obtain ⟨p, l, e, R, s, m, args, below, meth, c, b, kc, ks⟩ := X
  obtain ⟨hx, hb, hml, hown, hts, hr, hlk, rfl, hK, hA, hE, hkc, hks⟩ := C
  intro H locs ls hP hS hl
  exact lv_lstore hx hb hd hl (by rw [hml]; exact hn) hq (fun ls1 hl1 => kk H locs ls1 hP hS hl1)
theorem g_astore_n (C : Cx X cc own Ts nL rm ret) {k : Fin 4} {i : Nat} {x : Nat} (lv1 : List (Nat × Value)) (hd : decode cc pc = .ok (.astore_n k, 1)) (hi : (k : Nat) = i) (hn : i < nL) (hq : (i, Value.ref x) :: lv.filter (fun q => !(q.1 == i) && !(q.1 + 1 == i && q.2.category == 2)) = lv1) (kk : G X Q S (pc + 1) lv1 st) : G X Q S pc lv (.ref x :: st) := by
  obtain ⟨p, l, e, R, s, m, args, below, meth, c, b, kc, ks⟩ := X
  obtain ⟨hx, hb, hml, hown, hts, hr, hlk, rfl, hK, hA, hE, hkc, hks⟩ := C
  intro H locs ls hP hS hl
  exact lv_astore_n hx hb hd hi hl (by rw [hml]; exact hn) hq (fun ls1 hl1 => kk H locs ls1 hP hS hl1)
theorem g_astore (C : Cx X cc own Ts nL rm ret) {i : Nat} {x : Nat} (lv1 : List (Nat × Value)) (hd : decode cc pc = .ok (.astore i, 2)) (hn : i < nL) (hq : (i, Value.ref x) :: lv.filter (fun q => !(q.1 == i) && !(q.1 + 1 == i && q.2.category == 2)) = lv1) (kk : G X Q S (pc + 2) lv1 st) : G X Q S pc lv (.ref x :: st) := by
  obtain ⟨p, l, e, R, s, m, args, below, meth, c, b, kc, ks⟩ := X
  obtain ⟨hx, hb, hml, hown, hts, hr, hlk, rfl, hK, hA, hE, hkc, hks⟩ := C
  intro H locs ls hP hS hl
  exact lv_astore hx hb hd hl (by rw [hml]; exact hn) hq (fun ls1 hl1 => kk H locs ls1 hP hS hl1)
theorem g_iinc (C : Cx X cc own Ts nL rm ret) {i : Nat} {x v : Int32} {j : Int} (lv1 : List (Nat × Value)) (hd : decode cc pc = .ok (.iinc i j, 3)) (n : Nat) (hk : lv[n]? = some (i, .int x)) (hv : x + Int32.ofInt j = v) (hn : i < nL) (hq : (i, Value.int v) :: lv.filter (fun q => !(q.1 == i) && !(q.1 + 1 == i && q.2.category == 2)) = lv1) (kk : G X Q S (pc + 3) lv1 st) : G X Q S pc lv st := by
  obtain ⟨p, l, e, R, s, m, args, below, meth, c, b, kc, ks⟩ := X
  obtain ⟨hx, hb, hml, hown, hts, hr, hlk, rfl, hK, hA, hE, hkc, hks⟩ := C
  intro H locs ls hP hS hl
  exact lv_iinc hx hb hd hl hk hv (by rw [hml]; exact hn) hq (fun ls1 hl1 => kk H locs ls1 hP hS hl1)
theorem g_iadd (C : Cx X cc own Ts nL rm ret) {x y : Int32} (hd : decode cc pc = .ok (.iadd, 1)) (kk : G X Q S (pc + 1) lv (.int (x + y) :: st)) : G X Q S pc lv (.int y :: .int x :: st) := by
  obtain ⟨p, l, e, R, s, m, args, below, meth, c, b, kc, ks⟩ := X
  obtain ⟨hx, hb, hml, hown, hts, hr, hlk, rfl, hK, hA, hE, hkc, hks⟩ := C
  intro H locs ls hP hS hl
  exact lv_iadd hx hb hd (kk H locs ls hP hS hl)
theorem g_isub (C : Cx X cc own Ts nL rm ret) {x y : Int32} (hd : decode cc pc = .ok (.isub, 1)) (kk : G X Q S (pc + 1) lv (.int (x - y) :: st)) : G X Q S pc lv (.int y :: .int x :: st) := by
  obtain ⟨p, l, e, R, s, m, args, below, meth, c, b, kc, ks⟩ := X
  obtain ⟨hx, hb, hml, hown, hts, hr, hlk, rfl, hK, hA, hE, hkc, hks⟩ := C
  intro H locs ls hP hS hl
  exact lv_isub hx hb hd (kk H locs ls hP hS hl)
theorem g_imul (C : Cx X cc own Ts nL rm ret) {x y : Int32} (hd : decode cc pc = .ok (.imul, 1)) (kk : G X Q S (pc + 1) lv (.int (x * y) :: st)) : G X Q S pc lv (.int y :: .int x :: st) := by
  obtain ⟨p, l, e, R, s, m, args, below, meth, c, b, kc, ks⟩ := X
  obtain ⟨hx, hb, hml, hown, hts, hr, hlk, rfl, hK, hA, hE, hkc, hks⟩ := C
  intro H locs ls hP hS hl
  exact lv_imul hx hb hd (kk H locs ls hP hS hl)
theorem g_iand (C : Cx X cc own Ts nL rm ret) {x y : Int32} (hd : decode cc pc = .ok (.iand, 1)) (kk : G X Q S (pc + 1) lv (.int (x &&& y) :: st)) : G X Q S pc lv (.int y :: .int x :: st) := by
  obtain ⟨p, l, e, R, s, m, args, below, meth, c, b, kc, ks⟩ := X
  obtain ⟨hx, hb, hml, hown, hts, hr, hlk, rfl, hK, hA, hE, hkc, hks⟩ := C
  intro H locs ls hP hS hl
  exact lv_iand hx hb hd (kk H locs ls hP hS hl)
theorem g_ladd (C : Cx X cc own Ts nL rm ret) {x y : Int64} (hd : decode cc pc = .ok (.ladd, 1)) (kk : G X Q S (pc + 1) lv (.long (x + y) :: st)) : G X Q S pc lv (.long y :: .long x :: st) := by
  obtain ⟨p, l, e, R, s, m, args, below, meth, c, b, kc, ks⟩ := X
  obtain ⟨hx, hb, hml, hown, hts, hr, hlk, rfl, hK, hA, hE, hkc, hks⟩ := C
  intro H locs ls hP hS hl
  exact lv_ladd hx hb hd (kk H locs ls hP hS hl)
theorem g_lsub (C : Cx X cc own Ts nL rm ret) {x y : Int64} (hd : decode cc pc = .ok (.lsub, 1)) (kk : G X Q S (pc + 1) lv (.long (x - y) :: st)) : G X Q S pc lv (.long y :: .long x :: st) := by
  obtain ⟨p, l, e, R, s, m, args, below, meth, c, b, kc, ks⟩ := X
  obtain ⟨hx, hb, hml, hown, hts, hr, hlk, rfl, hK, hA, hE, hkc, hks⟩ := C
  intro H locs ls hP hS hl
  exact lv_lsub hx hb hd (kk H locs ls hP hS hl)
theorem g_lmul (C : Cx X cc own Ts nL rm ret) {x y : Int64} (hd : decode cc pc = .ok (.lmul, 1)) (kk : G X Q S (pc + 1) lv (.long (x * y) :: st)) : G X Q S pc lv (.long y :: .long x :: st) := by
  obtain ⟨p, l, e, R, s, m, args, below, meth, c, b, kc, ks⟩ := X
  obtain ⟨hx, hb, hml, hown, hts, hr, hlk, rfl, hK, hA, hE, hkc, hks⟩ := C
  intro H locs ls hP hS hl
  exact lv_lmul hx hb hd (kk H locs ls hP hS hl)
theorem g_land (C : Cx X cc own Ts nL rm ret) {x y : Int64} (hd : decode cc pc = .ok (.land, 1)) (kk : G X Q S (pc + 1) lv (.long (x &&& y) :: st)) : G X Q S pc lv (.long y :: .long x :: st) := by
  obtain ⟨p, l, e, R, s, m, args, below, meth, c, b, kc, ks⟩ := X
  obtain ⟨hx, hb, hml, hown, hts, hr, hlk, rfl, hK, hA, hE, hkc, hks⟩ := C
  intro H locs ls hP hS hl
  exact lv_land hx hb hd (kk H locs ls hP hS hl)
theorem g_lor (C : Cx X cc own Ts nL rm ret) {x y : Int64} (hd : decode cc pc = .ok (.lor, 1)) (kk : G X Q S (pc + 1) lv (.long (x ||| y) :: st)) : G X Q S pc lv (.long y :: .long x :: st) := by
  obtain ⟨p, l, e, R, s, m, args, below, meth, c, b, kc, ks⟩ := X
  obtain ⟨hx, hb, hml, hown, hts, hr, hlk, rfl, hK, hA, hE, hkc, hks⟩ := C
  intro H locs ls hP hS hl
  exact lv_lor hx hb hd (kk H locs ls hP hS hl)
theorem g_lxor (C : Cx X cc own Ts nL rm ret) {x y : Int64} (hd : decode cc pc = .ok (.lxor, 1)) (kk : G X Q S (pc + 1) lv (.long (x ^^^ y) :: st)) : G X Q S pc lv (.long y :: .long x :: st) := by
  obtain ⟨p, l, e, R, s, m, args, below, meth, c, b, kc, ks⟩ := X
  obtain ⟨hx, hb, hml, hown, hts, hr, hlk, rfl, hK, hA, hE, hkc, hks⟩ := C
  intro H locs ls hP hS hl
  exact lv_lxor hx hb hd (kk H locs ls hP hS hl)
theorem g_idiv (C : Cx X cc own Ts nL rm ret) {x y : Int32} {K : Option α} (h : chk (nzI y) K = some r0) (hd : decode cc pc = .ok (.idiv, 1)) (kk : K = some r0 → G X Q S (pc + 1) lv (.int (x / y) :: st)) : G X Q S pc lv (.int y :: .int x :: st) := by
  obtain ⟨p, l, e, R, s, m, args, below, meth, c, b, kc, ks⟩ := X
  obtain ⟨hx, hb, hml, hown, hts, hr, hlk, rfl, hK, hA, hE, hkc, hks⟩ := C
  intro H locs ls hP hS hl
  exact lv_idiv hx hb hd (of_decide_eq_true (chk_some h).1) (kk (chk_some h).2 H locs ls hP hS hl)
theorem g_irem (C : Cx X cc own Ts nL rm ret) {x y : Int32} {K : Option α} (h : chk (nzI y) K = some r0) (hd : decode cc pc = .ok (.irem, 1)) (kk : K = some r0 → G X Q S (pc + 1) lv (.int (x - x / y * y) :: st)) : G X Q S pc lv (.int y :: .int x :: st) := by
  obtain ⟨p, l, e, R, s, m, args, below, meth, c, b, kc, ks⟩ := X
  obtain ⟨hx, hb, hml, hown, hts, hr, hlk, rfl, hK, hA, hE, hkc, hks⟩ := C
  intro H locs ls hP hS hl
  exact lv_irem hx hb hd (of_decide_eq_true (chk_some h).1) (kk (chk_some h).2 H locs ls hP hS hl)
theorem g_ldiv (C : Cx X cc own Ts nL rm ret) {x y : Int64} {K : Option α} (h : chk (nzL y) K = some r0) (hd : decode cc pc = .ok (.ldiv, 1)) (kk : K = some r0 → G X Q S (pc + 1) lv (.long (x / y) :: st)) : G X Q S pc lv (.long y :: .long x :: st) := by
  obtain ⟨p, l, e, R, s, m, args, below, meth, c, b, kc, ks⟩ := X
  obtain ⟨hx, hb, hml, hown, hts, hr, hlk, rfl, hK, hA, hE, hkc, hks⟩ := C
  intro H locs ls hP hS hl
  exact lv_ldiv hx hb hd (of_decide_eq_true (chk_some h).1) (kk (chk_some h).2 H locs ls hP hS hl)
theorem g_lrem (C : Cx X cc own Ts nL rm ret) {x y : Int64} {K : Option α} (h : chk (nzL y) K = some r0) (hd : decode cc pc = .ok (.lrem, 1)) (kk : K = some r0 → G X Q S (pc + 1) lv (.long (x - x / y * y) :: st)) : G X Q S pc lv (.long y :: .long x :: st) := by
  obtain ⟨p, l, e, R, s, m, args, below, meth, c, b, kc, ks⟩ := X
  obtain ⟨hx, hb, hml, hown, hts, hr, hlk, rfl, hK, hA, hE, hkc, hks⟩ := C
  intro H locs ls hP hS hl
  exact lv_lrem hx hb hd (of_decide_eq_true (chk_some h).1) (kk (chk_some h).2 H locs ls hP hS hl)
theorem g_lshl (C : Cx X cc own Ts nL rm ret) {x : Int64} {y : Int32} (hd : decode cc pc = .ok (.lshl, 1)) (kk : G X Q S (pc + 1) lv (.long (x <<< (y.toInt64 &&& 63)) :: st)) : G X Q S pc lv (.int y :: .long x :: st) := by
  obtain ⟨p, l, e, R, s, m, args, below, meth, c, b, kc, ks⟩ := X
  obtain ⟨hx, hb, hml, hown, hts, hr, hlk, rfl, hK, hA, hE, hkc, hks⟩ := C
  intro H locs ls hP hS hl
  exact lv_lshl hx hb hd rfl (kk H locs ls hP hS hl)
theorem g_lshr (C : Cx X cc own Ts nL rm ret) {x : Int64} {y : Int32} (hd : decode cc pc = .ok (.lshr, 1)) (kk : G X Q S (pc + 1) lv (.long (x >>> (y.toInt64 &&& 63)) :: st)) : G X Q S pc lv (.int y :: .long x :: st) := by
  obtain ⟨p, l, e, R, s, m, args, below, meth, c, b, kc, ks⟩ := X
  obtain ⟨hx, hb, hml, hown, hts, hr, hlk, rfl, hK, hA, hE, hkc, hks⟩ := C
  intro H locs ls hP hS hl
  exact lv_lshr hx hb hd rfl (kk H locs ls hP hS hl)
theorem g_lushr (C : Cx X cc own Ts nL rm ret) {x : Int64} {y : Int32} (hd : decode cc pc = .ok (.lushr, 1)) (kk : G X Q S (pc + 1) lv (.long (lus x y) :: st)) : G X Q S pc lv (.int y :: .long x :: st) := by
  obtain ⟨p, l, e, R, s, m, args, below, meth, c, b, kc, ks⟩ := X
  obtain ⟨hx, hb, hml, hown, hts, hr, hlk, rfl, hK, hA, hE, hkc, hks⟩ := C
  intro H locs ls hP hS hl
  exact lv_lushr hx hb hd rfl (kk H locs ls hP hS hl)
theorem g_i2l (C : Cx X cc own Ts nL rm ret) {x : Int32} (hd : decode cc pc = .ok (.i2l, 1)) (kk : G X Q S (pc + 1) lv (.long x.toInt64 :: st)) : G X Q S pc lv (.int x :: st) := by
  obtain ⟨p, l, e, R, s, m, args, below, meth, c, b, kc, ks⟩ := X
  obtain ⟨hx, hb, hml, hown, hts, hr, hlk, rfl, hK, hA, hE, hkc, hks⟩ := C
  intro H locs ls hP hS hl
  exact lv_i2l hx hb hd rfl (kk H locs ls hP hS hl)
theorem g_l2i (C : Cx X cc own Ts nL rm ret) {x : Int64} (hd : decode cc pc = .ok (.l2i, 1)) (kk : G X Q S (pc + 1) lv (.int x.toInt32 :: st)) : G X Q S pc lv (.long x :: st) := by
  obtain ⟨p, l, e, R, s, m, args, below, meth, c, b, kc, ks⟩ := X
  obtain ⟨hx, hb, hml, hown, hts, hr, hlk, rfl, hK, hA, hE, hkc, hks⟩ := C
  intro H locs ls hP hS hl
  exact lv_l2i hx hb hd rfl (kk H locs ls hP hS hl)
theorem g_i2b (C : Cx X cc own Ts nL rm ret) {x : Int32} (hd : decode cc pc = .ok (.i2b, 1)) (kk : G X Q S (pc + 1) lv (.int x.toInt8.toInt32 :: st)) : G X Q S pc lv (.int x :: st) := by
  obtain ⟨p, l, e, R, s, m, args, below, meth, c, b, kc, ks⟩ := X
  obtain ⟨hx, hb, hml, hown, hts, hr, hlk, rfl, hK, hA, hE, hkc, hks⟩ := C
  intro H locs ls hP hS hl
  exact lv_i2b hx hb hd rfl (kk H locs ls hP hS hl)
theorem g_lcmp (C : Cx X cc own Ts nL rm ret) {x y : Int64} (hd : decode cc pc = .ok (.lcmp, 1)) (kk : G X Q S (pc + 1) lv (.int (lg_cmp x y) :: st)) : G X Q S pc lv (.long y :: .long x :: st) := by
  obtain ⟨p, l, e, R, s, m, args, below, meth, c, b, kc, ks⟩ := X
  obtain ⟨hx, hb, hml, hown, hts, hr, hlk, rfl, hK, hA, hE, hkc, hks⟩ := C
  intro H locs ls hP hS hl
  exact W.lcmp hx hb hd (kk H locs ls hP hS hl)
theorem g_dup (C : Cx X cc own Ts nL rm ret) {v : Value} (hd : decode cc pc = .ok (.dup, 1)) (hc : v.category = 1) (kk : G X Q S (pc + 1) lv (v :: v :: st)) : G X Q S pc lv (v :: st) := by
  obtain ⟨p, l, e, R, s, m, args, below, meth, c, b, kc, ks⟩ := X
  obtain ⟨hx, hb, hml, hown, hts, hr, hlk, rfl, hK, hA, hE, hkc, hks⟩ := C
  intro H locs ls hP hS hl
  exact lv_dup hx hb hd hc (kk H locs ls hP hS hl)
theorem g_pop (C : Cx X cc own Ts nL rm ret) {v : Value} (hd : decode cc pc = .ok (.pop, 1)) (hc : v.category = 1) (kk : G X Q S (pc + 1) lv st) : G X Q S pc lv (v :: st) := by
  obtain ⟨p, l, e, R, s, m, args, below, meth, c, b, kc, ks⟩ := X
  obtain ⟨hx, hb, hml, hown, hts, hr, hlk, rfl, hK, hA, hE, hkc, hks⟩ := C
  intro H locs ls hP hS hl
  exact lv_pop hx hb hd hc (kk H locs ls hP hS hl)
theorem g_if_eq (C : Cx X cc own Ts nL rm ret) {x : Int32} {off : Int} {tgt : Nat} {A B : Option α} (h : (if x = 0 then A else B) = some r0) (hd : decode cc pc = .ok (.ifCond .eq off, 3)) (ht : (pc : Int) + off = (tgt : Int)) (kt : A = some r0 → G X Q S tgt lv st) (kf : B = some r0 → G X Q S (pc + 3) lv st) : G X Q S pc lv (.int x :: st) := by
  obtain ⟨p, l, e, R, s, m, args, below, meth, c, b, kc, ks⟩ := X
  obtain ⟨hx, hb, hml, hown, hts, hr, hlk, rfl, hK, hA, hE, hkc, hks⟩ := C
  intro H locs ls hP hS hl
  exact lv_if_eq hx hb hd ht (fun q => kt (ite_t h q) H locs ls hP hS hl) (fun q => kf (ite_f h q) H locs ls hP hS hl)
theorem g_if_ne (C : Cx X cc own Ts nL rm ret) {x : Int32} {off : Int} {tgt : Nat} {A B : Option α} (h : (if x = 0 then B else A) = some r0) (hd : decode cc pc = .ok (.ifCond .ne off, 3)) (ht : (pc : Int) + off = (tgt : Int)) (kt : A = some r0 → G X Q S tgt lv st) (kf : B = some r0 → G X Q S (pc + 3) lv st) : G X Q S pc lv (.int x :: st) := by
  obtain ⟨p, l, e, R, s, m, args, below, meth, c, b, kc, ks⟩ := X
  obtain ⟨hx, hb, hml, hown, hts, hr, hlk, rfl, hK, hA, hE, hkc, hks⟩ := C
  intro H locs ls hP hS hl
  exact lv_if_ne hx hb hd ht (fun q => kt (ite_f h q) H locs ls hP hS hl) (fun q => kf (ite_t h q) H locs ls hP hS hl)
theorem g_if_lt (C : Cx X cc own Ts nL rm ret) {x : Int32} {off : Int} {tgt : Nat} {A B : Option α} (h : (if x < 0 then A else B) = some r0) (hd : decode cc pc = .ok (.ifCond .lt off, 3)) (ht : (pc : Int) + off = (tgt : Int)) (kt : A = some r0 → G X Q S tgt lv st) (kf : B = some r0 → G X Q S (pc + 3) lv st) : G X Q S pc lv (.int x :: st) := by
  obtain ⟨p, l, e, R, s, m, args, below, meth, c, b, kc, ks⟩ := X
  obtain ⟨hx, hb, hml, hown, hts, hr, hlk, rfl, hK, hA, hE, hkc, hks⟩ := C
  intro H locs ls hP hS hl
  exact lv_if_lt hx hb hd ht (fun q => kt (ite_t h q) H locs ls hP hS hl) (fun q => kf (ite_f h q) H locs ls hP hS hl)
theorem g_if_ge (C : Cx X cc own Ts nL rm ret) {x : Int32} {off : Int} {tgt : Nat} {A B : Option α} (h : (if 0 ≤ x then A else B) = some r0) (hd : decode cc pc = .ok (.ifCond .ge off, 3)) (ht : (pc : Int) + off = (tgt : Int)) (kt : A = some r0 → G X Q S tgt lv st) (kf : B = some r0 → G X Q S (pc + 3) lv st) : G X Q S pc lv (.int x :: st) := by
  obtain ⟨p, l, e, R, s, m, args, below, meth, c, b, kc, ks⟩ := X
  obtain ⟨hx, hb, hml, hown, hts, hr, hlk, rfl, hK, hA, hE, hkc, hks⟩ := C
  intro H locs ls hP hS hl
  exact lv_if_ge hx hb hd ht (fun q => kt (ite_t h q) H locs ls hP hS hl) (fun q => kf (ite_f h q) H locs ls hP hS hl)
theorem g_if_gt (C : Cx X cc own Ts nL rm ret) {x : Int32} {off : Int} {tgt : Nat} {A B : Option α} (h : (if 0 < x then A else B) = some r0) (hd : decode cc pc = .ok (.ifCond .gt off, 3)) (ht : (pc : Int) + off = (tgt : Int)) (kt : A = some r0 → G X Q S tgt lv st) (kf : B = some r0 → G X Q S (pc + 3) lv st) : G X Q S pc lv (.int x :: st) := by
  obtain ⟨p, l, e, R, s, m, args, below, meth, c, b, kc, ks⟩ := X
  obtain ⟨hx, hb, hml, hown, hts, hr, hlk, rfl, hK, hA, hE, hkc, hks⟩ := C
  intro H locs ls hP hS hl
  exact lv_if_gt hx hb hd ht (fun q => kt (ite_t h q) H locs ls hP hS hl) (fun q => kf (ite_f h q) H locs ls hP hS hl)
theorem g_if_le (C : Cx X cc own Ts nL rm ret) {x : Int32} {off : Int} {tgt : Nat} {A B : Option α} (h : (if x ≤ 0 then A else B) = some r0) (hd : decode cc pc = .ok (.ifCond .le off, 3)) (ht : (pc : Int) + off = (tgt : Int)) (kt : A = some r0 → G X Q S tgt lv st) (kf : B = some r0 → G X Q S (pc + 3) lv st) : G X Q S pc lv (.int x :: st) := by
  obtain ⟨p, l, e, R, s, m, args, below, meth, c, b, kc, ks⟩ := X
  obtain ⟨hx, hb, hml, hown, hts, hr, hlk, rfl, hK, hA, hE, hkc, hks⟩ := C
  intro H locs ls hP hS hl
  exact lv_if_le hx hb hd ht (fun q => kt (ite_t h q) H locs ls hP hS hl) (fun q => kf (ite_f h q) H locs ls hP hS hl)
theorem g_icmp_eq (C : Cx X cc own Ts nL rm ret) {x y : Int32} {off : Int} {tgt : Nat} {A B : Option α} (h : (if x = y then A else B) = some r0) (hd : decode cc pc = .ok (.if_icmp .eq off, 3)) (ht : (pc : Int) + off = (tgt : Int)) (kt : A = some r0 → G X Q S tgt lv st) (kf : B = some r0 → G X Q S (pc + 3) lv st) : G X Q S pc lv (.int y :: .int x :: st) := by
  obtain ⟨p, l, e, R, s, m, args, below, meth, c, b, kc, ks⟩ := X
  obtain ⟨hx, hb, hml, hown, hts, hr, hlk, rfl, hK, hA, hE, hkc, hks⟩ := C
  intro H locs ls hP hS hl
  exact lv_icmp_eq hx hb hd ht (fun q => kt (ite_t h q) H locs ls hP hS hl) (fun q => kf (ite_f h q) H locs ls hP hS hl)
theorem g_icmp_ne (C : Cx X cc own Ts nL rm ret) {x y : Int32} {off : Int} {tgt : Nat} {A B : Option α} (h : (if x = y then B else A) = some r0) (hd : decode cc pc = .ok (.if_icmp .ne off, 3)) (ht : (pc : Int) + off = (tgt : Int)) (kt : A = some r0 → G X Q S tgt lv st) (kf : B = some r0 → G X Q S (pc + 3) lv st) : G X Q S pc lv (.int y :: .int x :: st) := by
  obtain ⟨p, l, e, R, s, m, args, below, meth, c, b, kc, ks⟩ := X
  obtain ⟨hx, hb, hml, hown, hts, hr, hlk, rfl, hK, hA, hE, hkc, hks⟩ := C
  intro H locs ls hP hS hl
  exact lv_icmp_ne hx hb hd ht (fun q => kt (ite_f h q) H locs ls hP hS hl) (fun q => kf (ite_t h q) H locs ls hP hS hl)
theorem g_icmp_lt (C : Cx X cc own Ts nL rm ret) {x y : Int32} {off : Int} {tgt : Nat} {A B : Option α} (h : (if x < y then A else B) = some r0) (hd : decode cc pc = .ok (.if_icmp .lt off, 3)) (ht : (pc : Int) + off = (tgt : Int)) (kt : A = some r0 → G X Q S tgt lv st) (kf : B = some r0 → G X Q S (pc + 3) lv st) : G X Q S pc lv (.int y :: .int x :: st) := by
  obtain ⟨p, l, e, R, s, m, args, below, meth, c, b, kc, ks⟩ := X
  obtain ⟨hx, hb, hml, hown, hts, hr, hlk, rfl, hK, hA, hE, hkc, hks⟩ := C
  intro H locs ls hP hS hl
  exact lv_icmp_lt hx hb hd ht (fun q => kt (ite_t h q) H locs ls hP hS hl) (fun q => kf (ite_f h q) H locs ls hP hS hl)
theorem g_icmp_ge (C : Cx X cc own Ts nL rm ret) {x y : Int32} {off : Int} {tgt : Nat} {A B : Option α} (h : (if y ≤ x then A else B) = some r0) (hd : decode cc pc = .ok (.if_icmp .ge off, 3)) (ht : (pc : Int) + off = (tgt : Int)) (kt : A = some r0 → G X Q S tgt lv st) (kf : B = some r0 → G X Q S (pc + 3) lv st) : G X Q S pc lv (.int y :: .int x :: st) := by
  obtain ⟨p, l, e, R, s, m, args, below, meth, c, b, kc, ks⟩ := X
  obtain ⟨hx, hb, hml, hown, hts, hr, hlk, rfl, hK, hA, hE, hkc, hks⟩ := C
  intro H locs ls hP hS hl
  exact lv_icmp_ge hx hb hd ht (fun q => kt (ite_t h q) H locs ls hP hS hl) (fun q => kf (ite_f h q) H locs ls hP hS hl)
theorem g_icmp_gt (C : Cx X cc own Ts nL rm ret) {x y : Int32} {off : Int} {tgt : Nat} {A B : Option α} (h : (if y < x then A else B) = some r0) (hd : decode cc pc = .ok (.if_icmp .gt off, 3)) (ht : (pc : Int) + off = (tgt : Int)) (kt : A = some r0 → G X Q S tgt lv st) (kf : B = some r0 → G X Q S (pc + 3) lv st) : G X Q S pc lv (.int y :: .int x :: st) := by
  obtain ⟨p, l, e, R, s, m, args, below, meth, c, b, kc, ks⟩ := X
  obtain ⟨hx, hb, hml, hown, hts, hr, hlk, rfl, hK, hA, hE, hkc, hks⟩ := C
  intro H locs ls hP hS hl
  exact lv_icmp_gt hx hb hd ht (fun q => kt (ite_t h q) H locs ls hP hS hl) (fun q => kf (ite_f h q) H locs ls hP hS hl)
theorem g_icmp_le (C : Cx X cc own Ts nL rm ret) {x y : Int32} {off : Int} {tgt : Nat} {A B : Option α} (h : (if x ≤ y then A else B) = some r0) (hd : decode cc pc = .ok (.if_icmp .le off, 3)) (ht : (pc : Int) + off = (tgt : Int)) (kt : A = some r0 → G X Q S tgt lv st) (kf : B = some r0 → G X Q S (pc + 3) lv st) : G X Q S pc lv (.int y :: .int x :: st) := by
  obtain ⟨p, l, e, R, s, m, args, below, meth, c, b, kc, ks⟩ := X
  obtain ⟨hx, hb, hml, hown, hts, hr, hlk, rfl, hK, hA, hE, hkc, hks⟩ := C
  intro H locs ls hP hS hl
  exact lv_icmp_le hx hb hd ht (fun q => kt (ite_t h q) H locs ls hP hS hl) (fun q => kf (ite_f h q) H locs ls hP hS hl)
theorem g_goto (C : Cx X cc own Ts nL rm ret) {off : Int} {tgt : Nat} (hd : decode cc pc = .ok (.goto off, 3)) (ht : (pc : Int) + off = (tgt : Int)) (kk : G X Q S tgt lv st) : G X Q S pc lv st := by
  obtain ⟨p, l, e, R, s, m, args, below, meth, c, b, kc, ks⟩ := X
  obtain ⟨hx, hb, hml, hown, hts, hr, hlk, rfl, hK, hA, hE, hkc, hks⟩ := C
  intro H locs ls hP hS hl
  exact lv_goto hx hb hd ht (kk H locs ls hP hS hl)
theorem g_swIn (C : Cx X cc own Ts nL rm ret) {dflt lo hi : Int} {offs : Array Int} {len : Nat} {x : Int32} (v : Int32) (hx0 : x = v) {off : Int} {tgt : Nat} (hd : decode cc pc = .ok (.tableswitch dflt lo hi offs, len)) (h1 : ¬ v.toInt < lo) (h2 : ¬ hi < v.toInt) (ho : offs[(v.toInt - lo).toNat]? = some off) (ht : (pc : Int) + off = (tgt : Int)) (kk : G X Q S tgt lv st) : G X Q S pc lv (.int x :: st) := by
  obtain ⟨p, l, e, R, s, m, args, below, meth, c, b, kc, ks⟩ := X
  obtain ⟨hx, hb, hml, hown, hts, hr, hlk, rfl, hK, hA, hE, hkc, hks⟩ := C
  intro H locs ls hP hS hl
  exact lv_tableIn hx hb hd (by rw [hx0]; exact h1) (by rw [hx0]; exact h2) (by rw [hx0]; exact ho) ht (kk H locs ls hP hS hl)
theorem g_swOut (C : Cx X cc own Ts nL rm ret) {dflt lo hi : Int} {offs : Array Int} {len : Nat} {x : Int32} {tgt : Nat} (h : x.toInt < lo ∨ hi < x.toInt) (hd : decode cc pc = .ok (.tableswitch dflt lo hi offs, len)) (ht : (pc : Int) + dflt = (tgt : Int)) (kk : G X Q S tgt lv st) : G X Q S pc lv (.int x :: st) := by
  obtain ⟨p, l, e, R, s, m, args, below, meth, c, b, kc, ks⟩ := X
  obtain ⟨hx, hb, hml, hown, hts, hr, hlk, rfl, hK, hA, hE, hkc, hks⟩ := C
  intro H locs ls hP hS hl
  exact lv_tableOut hx hb hd h ht (kk H locs ls hP hS hl)
end GROWS
section GROWS2
variable {X : MC} {Q : State → Prop} {S : St} {pc : Nat} {lv : List (Nat × Value)} {st : List Value} {cc : ByteArray} {own : String} {Ts : List Cond} {nL : Nat} {rm : Room} {ret : Option FieldType} {α : Type} {r0 : α}
theorem g_weak {lv1 : List (Nat × Value)} (ps : List Nat) (hk : lv_pick lv ps = lv1) (kk : G X Q S pc lv1 st) : G X Q S pc lv st := by
  obtain ⟨p, l, e, R, s, m, args, below, meth, c, b, kc, ks⟩ := X
  intro H locs ls hP hS hl
  exact kk H locs ls hP hS (lv_sub hl ps hk)
theorem g_leti {x : Int32} {f : Int32 → Option α} (h : vlet x f = some r0) (kk : ∀ y : Int32, f y = some r0 → G X Q S pc lv (.int y :: st)) : G X Q S pc lv (.int x :: st) := kk x h
theorem g_letl {x : Int64} {f : Int64 → Option α} (h : vlet x f = some r0) (kk : ∀ y : Int64, f y = some r0 → G X Q S pc lv (.long y :: st)) : G X Q S pc lv (.long x :: st) := kk x h
theorem g_letr {x : Nat} {f : Nat → Option α} (h : vlet x f = some r0) (kk : ∀ y : Nat, f y = some r0 → G X Q S pc lv (.ref (ad X y) :: st)) : G X Q S pc lv (.ref (ad X x) :: st) := kk x h
/-- getfield of a cell of the world -/
theorem g_get (C : Cx X cc own Ts nL rm ret) (q0 : Nat) {ci N : Nat} {fs : List Value} {Cn : String} {T : u_T} (he : (world (Xb X) S)[q0]? = some (bad (Xb X) q0, .inr (ci, fs))) (hc : vwCl[ci]? = some (Cn, T, N)) (k : Nat) (hk : k < N) (hin : ∀ w ∈ u_ws Cn T N, w ∈ Ts) {index : Nat} (hlink : Cond.fieldLink own index (T k).1 (T k).2.1 (T k).2.2.1 ∈ Ts) {v : Value} (hv : fs[k]? = some v) (hd : decode cc pc = .ok (.getfield index, 3)) (kk : G X Q S (pc + 3) lv (v :: st)) : G X Q S pc lv (.ref (ad X q0) :: st) := by
  obtain ⟨p, l, e, R, s, m, args, below, meth, c, b, kc, ks⟩ := X
  obtain ⟨hx, hb, hml, hown, hts, hr, hlk, rfl, hK, hA, hE, hkc, hks⟩ := C
  intro H locs ls hP hS hl
  exact va_get hx hb hts hin hown hK hP q0 he hc k hk (hts _ hlink) (fun _ q => q) hv hd (kk H locs ls hP hS hl)
theorem g_getN (C : Cx X cc own Ts nL rm ret) (q0 : Nat) {ci N : Nat} {fs : List Value} {Cn host : String} {T : u_T} (he : (world (Xb X) S)[q0]? = some (bad (Xb X) q0, .inr (ci, fs))) (hc : vwCl[ci]? = some (Cn, T, N)) (k : Nat) (hk : k < N) (hin : ∀ w ∈ u_ws Cn T N, w ∈ Ts) {index : Nat} (hlink : Cond.fieldLinkNest own index (T k).1 (T k).2.1 (T k).2.2.1 host ∈ nestWs) {v : Value} (hv : fs[k]? = some v) (hd : decode cc pc = .ok (.getfield index, 3)) (kk : G X Q S (pc + 3) lv (v :: st)) : G X Q S pc lv (.ref (ad X q0) :: st) := by
  obtain ⟨p, l, e, R, s, m, args, below, meth, c, b, kc, ks⟩ := X
  obtain ⟨hx, hb, hml, hown, hts, hr, hlk, rfl, hK, hA, hE, hkc, hks⟩ := C
  intro H locs ls hP hS hl
  exact va_getN hx hb hts hin hown hK hP q0 he hc k hk (va_Nw.use rfl (hE.1 _ hlink)) (fun _ q => q) hv hd (kk H locs ls hP hS hl)
theorem g_put (C : Cx X cc own Ts nL rm ret) (q0 : Nat) {ci N : Nat} {fs : List Value} {Cn : String} {T : u_T} {v : Value} {S1 : St} (he : (world (Xb X) S)[q0]? = some (bad (Xb X) q0, .inr (ci, fs))) (hc : vwCl[ci]? = some (Cn, T, N)) (k : Nat) (hk : k < N) (hin : ∀ w ∈ u_ws Cn T N, w ∈ Ts) {ty0 : Nat → FieldType} (hty : ∀ k, k < N → parseFieldDescriptor (T k).2.2.1 = some (ty0 k)) (hnm : ∀ a, a < N → ∀ b, b < N → a ≠ b → (T a).2.1 ≠ (T b).2.1) {index : Nat} (hlink : Cond.fieldLink own index (T k).1 (T k).2.1 (T k).2.2.1 ∈ Ts) (hfin : (T k).2.2.2 = false) (hn : narrow (ty0 k) v = v) (hfit : fits (ty0 k) v = true) (hlen : k < fs.length)
    (hset : (world (Xb X) S).set q0 (bad (Xb X) q0, .inr (ci, fs.set k v)) = world (Xb X) S1) (hd : decode cc pc = .ok (.putfield index, 3)) {f : St → Option α} (h : vlet S1 f = some r0) (kk : ∀ S2, f S2 = some r0 → G X Q S2 (pc + 3) lv st) : G X Q S pc lv (v :: .ref (ad X q0) :: st) := by
  obtain ⟨p, l, e, R, s, m, args, below, meth, c, b, kc, ks⟩ := X
  obtain ⟨hx, hb, hml, hown, hts, hr, hlk, rfl, hK, hA, hE, hkc, hks⟩ := C
  intro H locs ls hP hS hl
  refine va_put hx hb hts hin ty0 hty hnm hown hK hP (world_D S hA (fun k hk => AW_in hk)) hS q0 he hc k hk (hts _ hlink) (fun _ q => q) hfin (hty k hk) hn hfit hlen hd (fun H1 locs1 hP1 _ hS1 => ?_)
  have hP2 : va_P (bD b) vwCl (world b S1) H1 := by
    have e1 : (world b S).set q0 (bad b q0, .inr (ci, fs.set k v)) = world b S1 := hset
    rw [← e1]; exact hP1
  exact kk S1 h H1 locs1 ls hP2 hS1 hl
theorem g_iald (C : Cx X cc own Ts nL rm ret) (q0 : Nat) {n : Nat} {i : Int32} {K : Option α} (he : (world (Xb X) S)[q0]? = some (bad (Xb X) q0, .inl (bcy (Xb X) 1, n, .inl (gA S q0)))) (h : chk (inb i n) K = some r0) (hd : decode cc pc = .ok (.iaload, 1)) (kk : K = some r0 → G X Q S (pc + 1) lv (.int (rd S q0 i) :: st)) : G X Q S pc lv (.int i :: .ref (ad X q0) :: st) := by
  obtain ⟨p, l, e, R, s, m, args, below, meth, c, b, kc, ks⟩ := X
  obtain ⟨hx, hb, hml, hown, hts, hr, hlk, rfl, hK, hA, hE, hkc, hks⟩ := C
  intro H locs ls hP hS hl
  exact va_iald hx hb hK hP q0 1 he rfl (inb_in (chk_some h).1) hd (kk (chk_some h).2 H locs ls hP hS hl)
theorem g_bald (C : Cx X cc own Ts nL rm ret) (q0 : Nat) {n : Nat} {i : Int32} {K : Option α} (he : (world (Xb X) S)[q0]? = some (bad (Xb X) q0, .inl (bcy (Xb X) 0, n, .inl (gA S q0)))) (h : chk (inb i n) K = some r0) (hd : decode cc pc = .ok (.baload, 1)) (kk : K = some r0 → G X Q S (pc + 1) lv (.int (rd S q0 i) :: st)) : G X Q S pc lv (.int i :: .ref (ad X q0) :: st) := by
  obtain ⟨p, l, e, R, s, m, args, below, meth, c, b, kc, ks⟩ := X
  obtain ⟨hx, hb, hml, hown, hts, hr, hlk, rfl, hK, hA, hE, hkc, hks⟩ := C
  intro H locs ls hP hS hl
  exact va_bald hx hb hK hP q0 0 he rfl (inb_in (chk_some h).1) hd (kk (chk_some h).2 H locs ls hP hS hl)
theorem g_zald (C : Cx X cc own Ts nL rm ret) (q0 : Nat) {n : Nat} {i : Int32} {K : Option α} (he : (world (Xb X) S)[q0]? = some (bad (Xb X) q0, .inl (bcy (Xb X) 3, n, .inl (gA S q0)))) (h : chk (inb i n) K = some r0) (hd : decode cc pc = .ok (.baload, 1)) (kk : K = some r0 → G X Q S (pc + 1) lv (.int (rd S q0 i) :: st)) : G X Q S pc lv (.int i :: .ref (ad X q0) :: st) := by
  obtain ⟨p, l, e, R, s, m, args, below, meth, c, b, kc, ks⟩ := X
  obtain ⟨hx, hb, hml, hown, hts, hr, hlk, rfl, hK, hA, hE, hkc, hks⟩ := C
  intro H locs ls hP hS hl
  exact va_zald hx hb hK hP q0 3 he rfl (inb_in (chk_some h).1) hd (kk (chk_some h).2 H locs ls hP hS hl)
theorem g_lald (C : Cx X cc own Ts nL rm ret) (q0 : Nat) {i : Int32} {K : Option α} (h : chk (isL q0) (chk (inb i 400) K) = some r0) (hd : decode cc pc = .ok (.laload, 1)) (kk : K = some r0 → G X Q S (pc + 1) lv (.long (rdL S q0 i) :: st)) : G X Q S pc lv (.int i :: .ref (ad X q0) :: st) := by
  obtain ⟨p, l, e, R, s, m, args, below, meth, c, b, kc, ks⟩ := X
  obtain ⟨hx, hb, hml, hown, hts, hr, hlk, rfl, hK, hA, hE, hkc, hks⟩ := C
  intro H locs ls hP hS hl
  obtain ⟨h1, h2⟩ := chk_some h
  obtain ⟨h3, h4⟩ := chk_some h2
  exact va_lald hx hb hK hP q0 2 (wl b S q0 (of_decide_eq_true h1)) rfl (inb_in h3) hd (kk h4 H locs ls hP hS hl)
theorem g_iast (C : Cx X cc own Ts nL rm ret) (q0 : Nat) {n : Nat} {i x : Int32} {f : St → Option α} (he : (world (Xb X) S)[q0]? = some (bad (Xb X) q0, .inl (bcy (Xb X) 1, n, .inl (gA S q0)))) (hset : ∀ g : Nat → Int32, (world (Xb X) S).set q0 (bad (Xb X) q0, .inl (bcy (Xb X) 1, n, .inl g)) = world (Xb X) (pA S q0 g)) (h : chk (inb i n) (vlet (wr S q0 i x) f) = some r0) (hd : decode cc pc = .ok (.iastore, 1)) (kk : ∀ S2, f S2 = some r0 → G X Q S2 (pc + 1) lv st) : G X Q S pc lv (.int x :: .int i :: .ref (ad X q0) :: st) := by
  obtain ⟨p, l, e, R, s, m, args, below, meth, c, b, kc, ks⟩ := X
  obtain ⟨hx, hb, hml, hown, hts, hr, hlk, rfl, hK, hA, hE, hkc, hks⟩ := C
  intro H locs ls hP hS hl
  refine va_iast hx hb hK hP (world_D S hA (fun k hk => AW_in hk)) hS q0 1 he rfl (inb_in (chk_some h).1) hd (fun H1 locs1 hP1 _ hS1 => ?_)
  have hP2 : va_P (bD b) vwCl (world b (wr S q0 i x)) H1 := by
    have e1 := hset (upd (gA S q0) i.toNatClampNeg x)
    have e2 : world b (pA S q0 (upd (gA S q0) i.toNatClampNeg x)) = world b (wr S q0 i x) := rfl
    rw [← e2]; rw [show Xb (p, l, e, R, s, m, args, below, meth, c, b, kc, ks) = b from rfl] at e1; rw [← e1]; exact hP1
  exact kk _ (chk_some h).2 H1 locs1 ls hP2 hS1 hl
theorem g_bast (C : Cx X cc own Ts nL rm ret) (q0 : Nat) {n : Nat} {i x : Int32} {f : St → Option α} (he : (world (Xb X) S)[q0]? = some (bad (Xb X) q0, .inl (bcy (Xb X) 0, n, .inl (gA S q0)))) (hset : ∀ g : Nat → Int32, (world (Xb X) S).set q0 (bad (Xb X) q0, .inl (bcy (Xb X) 0, n, .inl g)) = world (Xb X) (pA S q0 g)) (h : chk (inb i n) (vlet (wr S q0 i (vp_nar .byte x)) f) = some r0) (hd : decode cc pc = .ok (.bastore, 1)) (kk : ∀ S2, f S2 = some r0 → G X Q S2 (pc + 1) lv st) : G X Q S pc lv (.int x :: .int i :: .ref (ad X q0) :: st) := by
  obtain ⟨p, l, e, R, s, m, args, below, meth, c, b, kc, ks⟩ := X
  obtain ⟨hx, hb, hml, hown, hts, hr, hlk, rfl, hK, hA, hE, hkc, hks⟩ := C
  intro H locs ls hP hS hl
  refine va_bast hx hb hK hP (world_D S hA (fun k hk => AW_in hk)) hS q0 0 he rfl (inb_in (chk_some h).1) hd (fun H1 locs1 hP1 _ hS1 => ?_)
  have hP2 : va_P (bD b) vwCl (world b (wr S q0 i (vp_nar .byte x))) H1 := by
    have e1 := hset (upd (gA S q0) i.toNatClampNeg (vp_nar .byte x))
    have e2 : world b (pA S q0 (upd (gA S q0) i.toNatClampNeg (vp_nar .byte x))) = world b (wr S q0 i (vp_nar .byte x)) := rfl
    rw [← e2]; rw [show Xb (p, l, e, R, s, m, args, below, meth, c, b, kc, ks) = b from rfl] at e1; rw [← e1]; exact hP1
  exact kk _ (chk_some h).2 H1 locs1 ls hP2 hS1 hl
theorem g_zast (C : Cx X cc own Ts nL rm ret) (q0 : Nat) {n : Nat} {i x : Int32} {f : St → Option α} (he : (world (Xb X) S)[q0]? = some (bad (Xb X) q0, .inl (bcy (Xb X) 3, n, .inl (gA S q0)))) (hset : ∀ g : Nat → Int32, (world (Xb X) S).set q0 (bad (Xb X) q0, .inl (bcy (Xb X) 3, n, .inl g)) = world (Xb X) (pA S q0 g)) (h : chk (inb i n) (vlet (wr S q0 i (vp_nar .boolean x)) f) = some r0) (hd : decode cc pc = .ok (.bastore, 1)) (kk : ∀ S2, f S2 = some r0 → G X Q S2 (pc + 1) lv st) : G X Q S pc lv (.int x :: .int i :: .ref (ad X q0) :: st) := by
  obtain ⟨p, l, e, R, s, m, args, below, meth, c, b, kc, ks⟩ := X
  obtain ⟨hx, hb, hml, hown, hts, hr, hlk, rfl, hK, hA, hE, hkc, hks⟩ := C
  intro H locs ls hP hS hl
  refine va_zast hx hb hK hP (world_D S hA (fun k hk => AW_in hk)) hS q0 3 he rfl (inb_in (chk_some h).1) hd (fun H1 locs1 hP1 _ hS1 => ?_)
  have hP2 : va_P (bD b) vwCl (world b (wr S q0 i (vp_nar .boolean x))) H1 := by
    have e1 := hset (upd (gA S q0) i.toNatClampNeg (vp_nar .boolean x))
    have e2 : world b (pA S q0 (upd (gA S q0) i.toNatClampNeg (vp_nar .boolean x))) = world b (wr S q0 i (vp_nar .boolean x)) := rfl
    rw [← e2]; rw [show Xb (p, l, e, R, s, m, args, below, meth, c, b, kc, ks) = b from rfl] at e1; rw [← e1]; exact hP1
  exact kk _ (chk_some h).2 H1 locs1 ls hP2 hS1 hl
theorem g_last (C : Cx X cc own Ts nL rm ret) (q0 : Nat) {i : Int32} {x : Int64} {f : St → Option α} (h : chk (isL q0) (chk (inb i 400) (vlet (wrL S q0 i x) f)) = some r0) (hd : decode cc pc = .ok (.lastore, 1)) (kk : ∀ S2, f S2 = some r0 → G X Q S2 (pc + 1) lv st) : G X Q S pc lv (.long x :: .int i :: .ref (ad X q0) :: st) := by
  obtain ⟨p, l, e, R, s, m, args, below, meth, c, b, kc, ks⟩ := X
  obtain ⟨hx, hb, hml, hown, hts, hr, hlk, rfl, hK, hA, hE, hkc, hks⟩ := C
  intro H locs ls hP hS hl
  obtain ⟨h1, h2⟩ := chk_some h
  obtain ⟨h3, h4⟩ := chk_some h2
  refine va_last hx hb hK hP (world_D S hA (fun k hk => AW_in hk)) hS q0 2 (wl b S q0 (of_decide_eq_true h1)) rfl (inb_in h3) hd (fun H1 locs1 hP1 _ hS1 => ?_)
  have hP2 : va_P (bD b) vwCl (world b (wrL S q0 i x)) H1 := by
    have e1 := wls b S q0 (of_decide_eq_true h1) (vp_updL (gL S q0) i.toNatClampNeg x)
    have e2 : world b (pL S q0 (vp_updL (gL S q0) i.toNatClampNeg x)) = world b (wrL S q0 i x) := rfl
    rw [← e2, ← e1]; exact hP1
  exact kk _ h4 H1 locs1 ls hP2 hS1 hl
theorem va_aldg {p : Program} {l : Launch} {e : Env} {R : Room} {s : State} {m : MethodId} {args : Array Value} {below : List Frame} {meth : Method} {c : Code} {H : Heap} {locs : List Loc} {cells slots : Nat} {Q : State → Prop} {cc : ByteArray} {pc : Nat} {ls : Array Slot} {rest : List Value} {D : va_G} {cl : List vw_C} {a : Nat} {tys : List (ClassId × FieldType)} {ws : va_W} (hexec : p.tables.exec = Jvm.exec) (hb : c.code = cc) (hK : va_K D cl tys s) (hP : va_P D cl ws H) (q0 t0 : Nat) {cA : ClassId} {n : Nat} {f : Nat → Option Nat} (ha : ws[q0]? = some (a, .inl (cA, n, .inr (.inr (.inr (.inr f)))))) (ht : tys[t0]? = some (cA, .array .int)) {i : Int32} (hin : vp_in i n) (hdg : decode cc pc = .ok (.aaload, 1))
    (kk : W p l e R s m args below meth c H locs cells slots Q (F0 m (pc + 1) ls (va_rf (f i.toNatClampNeg) :: rest))) : W p l e R s m args below meth c H locs cells slots Q (F0 m pc ls (.int i :: .ref a :: rest)) := by
  have hlt : i.toNatClampNeg < n := Nat.not_le.mp fun q => hin (Or.inr q)
  exact W.aald (v := va_rf (f i.toNatClampNeg)) (ty := .array .int) hexec hb (hP q0 _ ha) ((hK.2 t0 _ ht).1 n (fun j => va_rf (f j))) rfl (fun q => by cases q) (by show ¬ (i < 0 ∨ (arrV _ _ _).slots.size ≤ _); rw [arrV_size]; exact hin) (by show (arrV _ _ _).slots[_]? = _; rw [arrV_read _ _ hlt]) rfl rfl hdg kk
theorem g_aald (C : Cx X cc own Ts nL rm ret) (q0 : Nat) {n b0 : Nat} {i : Int32} (q1 : Nat) {K : Option α} (he : (world (Xb X) S)[q0]? = some (bad (Xb X) q0, .inl (bcy (Xb X) 4, n, .inr (.inr (.inr (.inr (fun j => if j < n then some (bad (Xb X) (b0 + j)) else none))))))) (hq : b0 + i.toNatClampNeg = q1) (h : chk (inb i n) K = some r0) (hd : decode cc pc = .ok (.aaload, 1)) (kk : i.toNatClampNeg < n → K = some r0 → G X Q S (pc + 1) lv (.ref (ad X q1) :: st)) : G X Q S pc lv (.int i :: .ref (ad X q0) :: st) := by
  obtain ⟨p, l, e, R, s, m, args, below, meth, c, b, kc, ks⟩ := X
  obtain ⟨hx, hb, hml, hown, hts, hr, hlk, rfl, hK, hA, hE, hkc, hks⟩ := C
  intro H locs ls hP hS hl
  subst hq
  have hin := inb_in (chk_some h).1
  have hlt : i.toNatClampNeg < n := Nat.not_le.mp fun q => hin (Or.inr q)
  refine va_aldg hx hb hK hP q0 4 he rfl hin hd ?_
  rw [if_pos hlt]
  exact kk hlt (chk_some h).2 H locs ls hP hS hl
theorem g_aaldc (C : Cx X cc own Ts nL rm ret) (q0 : Nat) {n b0 : Nat} {i : Int32} (q1 : Nat) (he : (world (Xb X) S)[q0]? = some (bad (Xb X) q0, .inl (bcy (Xb X) 4, n, .inr (.inr (.inr (.inr (fun j => if j < n then some (bad (Xb X) (b0 + j)) else none))))))) (hq : b0 + i.toNatClampNeg = q1) (hin : inb i n = true) (hd : decode cc pc = .ok (.aaload, 1)) (kk : G X Q S (pc + 1) lv (.ref (ad X q1) :: st)) : G X Q S pc lv (.int i :: .ref (ad X q0) :: st) :=
  g_aald (r0 := ()) C q0 q1 (K := some ()) he hq (by rw [hin]; rfl) hd (fun _ _ => kk)
theorem g_alen (C : Cx X cc own Ts nL rm ret) (q0 : Nat) {ty : FieldType} (t0 : Nat) {x : vp_A} {cA : ClassId} (he : (world (Xb X) S)[q0]? = some (bad (Xb X) q0, .inl (cA, x))) (ht : (btys (Xb X))[t0]? = some (cA, ty)) {v : Int32} (hv : Int32.ofNat x.1 = v) (hd : decode cc pc = .ok (.arraylength, 1)) (kk : G X Q S (pc + 1) lv (.int v :: st)) : G X Q S pc lv (.ref (ad X q0) :: st) := by
  obtain ⟨p, l, e, R, s, m, args, below, meth, c, b, kc, ks⟩ := X
  obtain ⟨hx, hb, hml, hown, hts, hr, hlk, rfl, hK, hA, hE, hkc, hks⟩ := C
  intro H locs ls hP hS hl
  exact va_alen hx hb hK hP q0 t0 he ht hv hd (kk H locs ls hP hS hl)
theorem g_getsN (C : Cx X cc own Ts nL rm ret) (j : Nat) (hj : j < 3) {index : Nat} {host : String} (hlink : Cond.fieldLinkNest own index RX3 (tblN j) "[I" host ∈ nestWs) (hd : decode cc pc = .ok (.getstatic index, 3)) (kk : G X Q S (pc + 3) lv (.ref (bT (Xb X) j) :: st)) : G X Q S pc lv st := by
  obtain ⟨p, l, e, R, s, m, args, below, meth, c, b, kc, ks⟩ := X
  obtain ⟨hx, hb, hml, hown, hts, hr, hlk, rfl, hK, hA, hE, hkc, hks⟩ := C
  intro H locs ls hP hS hl
  exact va_getsN hx hb (hE.2.2.2.2.2 j hj).1 hS hown (va_Nw.use rfl (hE.1 _ hlink)) (fun _ q => q) hd (kk H locs ls hP hS hl)
theorem g_tld (C : Cx X cc own Ts nL rm ret) (j : Nat) (hj : j < 3) {i : Int32} {K : Option α} (h : chk (inb i 13) K = some r0) (hd : decode cc pc = .ok (.iaload, 1)) (kk : K = some r0 → G X Q S (pc + 1) lv (.int (tbr j i) :: st)) : G X Q S pc lv (.int i :: .ref (bT (Xb X) j) :: st) := by
  obtain ⟨p, l, e, R, s, m, args, below, meth, c, b, kc, ks⟩ := X
  obtain ⟨hx, hb, hml, hown, hts, hr, hlk, rfl, hK, hA, hE, hkc, hks⟩ := C
  intro H locs ls hP hS hl
  exact va_ti hx hb (hE.2.2.2.2.2 j hj).2 hS (inb_in (chk_some h).1) rfl hd (kk (chk_some h).2 H locs ls hP hS hl)
theorem g_mmin (C : Cx X cc own Ts nL rm ret) {index : Nat} (h1 : Cond.methodLink own index Lib.Math.min.name ∈ Ts) (h2 : Cond.static Lib.Math.min.name ∈ Ts) (h3 : Cond.initialized "java/lang/Math" ∈ Ts) (h4 : Cond.code Lib.Math.min.name Lib.Math.min.code 2 (some .int) ∈ Ts) (hfr : 1 ≤ rm.frames) (hlo : (st.map fun v => v.category).sum + 13 ≤ rm.locals) {x y : Int32} (hd : decode cc pc = .ok (.invokestatic index, 3)) (kk : G X Q S (pc + 3) lv (.int (imin x y) :: st)) : G X Q S pc lv (.int y :: .int x :: st) := by
  obtain ⟨p, l, e, R, s, m, args, below, meth, c, b, kc, ks⟩ := X
  obtain ⟨hx, hb, hml, hown, hts, hr, hlk, rfl, hK, hA, hE, hkc, hks⟩ := C
  intro H locs ls hP hS hl
  exact va_mmin hx hb hl.1.symm hown (hts _ h1) (hts _ h2) (hts _ h3) (hts _ h4) hfr hlo hkc hks hd (kk H locs ls hP hS hl)
theorem g_mmax (C : Cx X cc own Ts nL rm ret) {index : Nat} (h1 : Cond.methodLink own index Lib.Math.max.name ∈ Ts) (h2 : Cond.static Lib.Math.max.name ∈ Ts) (h3 : Cond.initialized "java/lang/Math" ∈ Ts) (h4 : Cond.code Lib.Math.max.name Lib.Math.max.code 2 (some .int) ∈ Ts) (hfr : 1 ≤ rm.frames) (hlo : (st.map fun v => v.category).sum + 13 ≤ rm.locals) {x y : Int32} (hd : decode cc pc = .ok (.invokestatic index, 3)) (kk : G X Q S (pc + 3) lv (.int (imax x y) :: st)) : G X Q S pc lv (.int y :: .int x :: st) := by
  obtain ⟨p, l, e, R, s, m, args, below, meth, c, b, kc, ks⟩ := X
  obtain ⟨hx, hb, hml, hown, hts, hr, hlk, rfl, hK, hA, hE, hkc, hks⟩ := C
  intro H locs ls hP hS hl
  exact va_mmax hx hb hl.1.symm hown (hts _ h1) (hts _ h2) (hts _ h3) (hts _ h4) hfr hlo hkc hks hd (kk H locs ls hP hS hl)
/-! returns -/
theorem g_iret (C : Cx X cc own Ts nL rm (some .int)) {v : Int32} {r : Int32 × St} (h : some (v, S) = some r) (hd : decode cc pc = .ok (.ireturn, 1)) : G X (QM mkI X r) S pc lv [.int v] := by
  obtain ⟨p, l, e, R, s, m, args, below, meth, c, b, kc, ks⟩ := X
  obtain ⟨hx, hb, hml, hown, hts, hr, hlk, rfl, hK, hA, hE, hkc, hks⟩ := C
  intro H locs ls hP hS hl
  cases h
  exact W.iret hx hb hr (fun t ht hW => ⟨rfl, by rw [ht]; exact hP, hS.F ht⟩) hS.2.2 hd hlk
theorem g_zret (C : Cx X cc own Ts nL rm (some .boolean)) {v : Int32} {r : Int32 × St} (h : chk (isB v) (some (v, S)) = some r) (hd : decode cc pc = .ok (.ireturn, 1)) : G X (QM mkI X r) S pc lv [.int v] := by
  obtain ⟨p, l, e, R, s, m, args, below, meth, c, b, kc, ks⟩ := X
  obtain ⟨hx, hb, hml, hown, hts, hr, hlk, rfl, hK, hA, hE, hkc, hks⟩ := C
  intro H locs ls hP hS hl
  obtain ⟨h1, h2⟩ := chk_some h
  cases h2
  have hn : narrow .boolean (.int v) = .int v := by
    rcases of_decide_eq_true h1 with rfl | rfl <;> rfl
  exact W.zret hx hb hr hn (fun t ht hW => ⟨rfl, by rw [ht]; exact hP, hS.F ht⟩) hS.2.2 hd hlk
theorem g_zretc (C : Cx X cc own Ts nL rm (some .boolean)) {v : Int32} {r : Int32 × St} (hv : isB v = true) (h : some (v, S) = some r) (hd : decode cc pc = .ok (.ireturn, 1)) : G X (QM mkI X r) S pc lv [.int v] := g_zret C (by rw [hv]; exact h) hd
theorem g_lret (C : Cx X cc own Ts nL rm (some .long)) {v : Int64} {r : Int64 × St} (h : some (v, S) = some r) (hd : decode cc pc = .ok (.lreturn, 1)) : G X (QM mkL X r) S pc lv [.long v] := by
  obtain ⟨p, l, e, R, s, m, args, below, meth, c, b, kc, ks⟩ := X
  obtain ⟨hx, hb, hml, hown, hts, hr, hlk, rfl, hK, hA, hE, hkc, hks⟩ := C
  intro H locs ls hP hS hl
  cases h
  exact W.lret hx hb hr (fun t ht hW => ⟨rfl, by rw [ht]; exact hP, hS.F ht⟩) hS.2.2 hd hlk
theorem g_vret (C : Cx X cc own Ts nL rm none) {r : Unit × St} (h : some ((), S) = some r) (hd : decode cc pc = .ok (.return_, 1)) : G X (QM mkV X r) S pc lv [] := by
  obtain ⟨p, l, e, R, s, m, args, below, meth, c, b, kc, ks⟩ := X
  obtain ⟨hx, hb, hml, hown, hts, hr, hlk, rfl, hK, hA, hE, hkc, hks⟩ := C
  intro H locs ls hP hS hl
  cases h
  exact W.vret hx hb hr (fun t ht hW => ⟨rfl, by rw [ht]; exact hP, hS.F ht⟩) hS.2.2 hd hlk
theorem g_sret (C : Cx X cc own Ts nL rm (some (.object "java/lang/String"))) {i : Nat} {r : Nat × St} (h : some (i, S) = some r) (hd : decode cc pc = .ok (.areturn, 1)) : G X (QM (mkS (Xb X)) X r) S pc lv [.ref (bK (Xb X) i)] := by
  obtain ⟨p, l, e, R, s, m, args, below, meth, c, b, kc, ks⟩ := X
  obtain ⟨hx, hb, hml, hown, hts, hr, hlk, rfl, hK, hA, hE, hkc, hks⟩ := C
  intro H locs ls hP hS hl
  cases h
  exact W.aret hx hb hr (Or.inl ⟨_, rfl⟩) (Or.inr ⟨_, rfl⟩) (fun t ht hW => ⟨rfl, by rw [ht]; exact hP, hS.F ht⟩) hS.2.2 hd hlk
end GROWS2
/-! ===== calls ===== -/
section GCALL
variable {p : Program} {l : Launch} {e : Env} {R : Room} {s : State} {m : MethodId} {args : Array Value} {below : List Frame} {meth : Method} {c : Code} {H : Heap} {locs : List Loc} {Q : State → Prop}
theorem va_callQ {kc ks : Nat} {pc : Nat} {ls : Array Slot} {rest st0 : List Value} {a : Array Value} {A0 A1 : Nat → Prop} {H0 : Heap} {free : Addr → Prop} {b : Bw} {v : Option Value} {S1 : St} (hr : va_Run p l e R s m args below meth c H locs kc ks 0 0 (F0 m pc ls st0) rest (QW b v S1 A1 a) free) (hS : va_S A0 H0 H locs) (hA : ∀ q, q < H.size → A1 q → A0 q) (hf : ∀ q, free q → A0 q)
    (kk : ∀ (H1 : Heap) (locs1 : List Loc), va_P (bD b) vwCl (world b S1) H1 → va_S A0 H0 H1 locs1 → W p l e R s m args below meth c H1 locs1 kc ks Q (F0 m (pc + 3) ls (v.toList ++ rest))) : W p l e R s m args below meth c H locs kc ks Q (F0 m pc ls st0) := by
  intro T hT X
  obtain ⟨v1, st₀, t, T', L, h0, X', hL, e1, e2, ⟨hv, hP1, hz, hk⟩, st⟩ := hr T hT X
  cases hv
  rw [h0] at hz hk
  obtain ⟨t2, a1, b1⟩ := kk T'.heap (locs ++ L) (by rw [e1]; exact hP1)
    ⟨Nat.le_trans hS.1 (by rw [e1]; exact hz), fun q h1 h2 => by rw [e1, hk q (Nat.lt_of_lt_of_le h1 hS.1) (fun z => h2 (hA q (Nat.lt_of_lt_of_le h1 hS.1) z))]; exact hS.2.1 q h1 h2, fun q hq => by
      rcases List.mem_append.mp hq with h | h
      · exact hS.2.2 q h
      · exact hf _ (hL q h)⟩ T' rfl X'
  exact ⟨t2, st t2 a1, b1⟩
theorem AW_sub {b : Bw} {s0 : Nat} {s1 : Nat} (h : s0 ≤ s1) : ∀ q, AW b s1 q → AW b s0 q := fun q hq => hq.elim Or.inl (fun z => Or.inr (Nat.le_trans h z))
theorem pre_of {b : Bw} {S : St} (hP : va_P (bD b) vwCl (world b S) H) (hS : va_S (AW b s.heap.size) s.heap H locs) (hK : va_K (bD b) vwCl (btys b) s) (hA : adOK b) (hE : EnvP b (AW b s.heap.size) s s.heap) (As : List Value) : ∀ U : State, U.heap = H → s.WarmedH U.vm → va_Pc As (PreW b S H.size) As.toArray U := by
  intro U hU hW
  refine ⟨rfl, by rw [hU], by rw [hU]; exact hP, va_K.moved hW.alike hK, hA, ?_⟩
  rw [hU]
  exact ((hE.warm hW).kept hS.2.1).narrow (AW_sub hS.1)
end GCALL
section GROWS3
variable {X : MC} {Q : State → Prop} {S : St} {pc : Nat} {lv : List (Nat × Value)} {st stk : List Value} {cc : ByteArray} {own : String} {Ts : List Cond} {nL : Nat} {rm : Room} {ret : Option FieldType} {α ρ : Type} {r0 : α} {mk : ρ → Option Value} {y : MethodName} {ws ws' : List Cond} {bytes : ByteArray} {maxL n index : Nat} {ret1 : Option FieldType} {rm1 : Room} {o1 : Option (ρ × St)} {As : List Value} {f : ρ → St → Option α}
theorem g_callV (C : Cx X cc own Ts nL rm ret) (q0 : Nat) {ci N : Nat} {fs : List Value} {Cn : String} {T : u_T} (hM : Ct (Xl X) (Xb X) y ws rm1 (.ref (ad X q0) :: As) S mk o1) (hg : GoodIn Ts (wsV own index Cn y ws)) (hw : ws = .code y bytes maxL ret1 :: ws') (hrc : rm1.cells = 0) (hrs : rm1.slots = 0) (hd1 : y.cls = Cn ∧ y.cls ≠ "java/lang/invoke/MethodHandle" ∧ y.cls ≠ "java/lang/invoke/VarHandle" ∧ (parseMethodDescriptor y.desc).map (fun d => d.parameters.length) = some n) (hroom : rm1.frames + 1 ≤ rm.frames ∧ 8 + (maxL + 11) + rm1.locals ≤ rm.locals) (he : (world (Xb X) S)[q0]? = some (bad (Xb X) q0, .inr (ci, fs))) (hc : vwCl[ci]? = some (Cn, T, N)) (hn : As.length = n) (hst : stk = As.reverse ++ .ref (ad X q0) :: st) (hcat : (st.map fun v => v.category).sum ≤ 8) (hd : decode cc pc = .ok (.invokevirtual index, 3)) (h : bnd o1 f = some r0) (kk : ∀ a S1, f a S1 = some r0 → G X Q S1 (pc + 3) lv ((mk a).toList ++ st)) : G X Q S pc lv stk := by
  obtain ⟨p, l, e, R, s, m, args, below, meth, c, b, kc, ks⟩ := X
  obtain ⟨hx, hb, hml, hown, hts, hr, hlk, rfl, hK, hA, hE, hkc, hks⟩ := C
  intro H locs ls hP hS hl
  obtain ⟨q, hq1, hq2⟩ := bnd_some h
  have cw : CallW R s args own Cn index y bytes maxL ret1 ws rm1 0 0 n := cwV n hts hg hw hrc hrs hd1 hroom
  refine va_callQ (va_runV (As := As) (rest := st) ⟨hx, hb, hml, hown, hts⟩ (hM H.size q hq1) cw ⟨PreW_calling, va_recv hK hP hc he, pre_of hP hS hK hA hE (.ref (bad b q0) :: As)⟩ rfl hn (hl.1.trans hml) hst (lv_room hcat) hd ⟨hkc, hks⟩) hS (fun z _ hz => AW_sub hS.1 z hz) (AW_sub hS.1) (fun H1 locs1 hP1 hS1 => ?_)
  exact kk q.1 q.2 hq2 H1 locs1 ls hP1 hS1 hl
theorem g_callS (C : Cx X cc own Ts nL rm ret) (hM : Ct (Xl X) (Xb X) y ws rm1 As S mk o1) (hg : GoodIn Ts (va_wsS own index y ws)) (hw : ws = .code y bytes maxL ret1 :: ws') (hrc : rm1.cells = 0) (hrs : rm1.slots = 0) (hd1 : y.cls ≠ "java/lang/invoke/MethodHandle" ∧ y.cls ≠ "java/lang/invoke/VarHandle" ∧ (parseMethodDescriptor y.desc).map (fun d => d.parameters.length) = some n) (hroom : rm1.frames + 1 ≤ rm.frames ∧ 8 + (maxL + 11) + rm1.locals ≤ rm.locals) (hn : As.length = n) (hst : stk = As.reverse ++ st) (hcat : (st.map fun v => v.category).sum ≤ 8) (hd : decode cc pc = .ok (.invokestatic index, 3)) (h : bnd o1 f = some r0) (kk : ∀ a S1, f a S1 = some r0 → G X Q S1 (pc + 3) lv ((mk a).toList ++ st)) : G X Q S pc lv stk := by
  obtain ⟨p, l, e, R, s, m, args, below, meth, c, b, kc, ks⟩ := X
  obtain ⟨hx, hb, hml, hown, hts, hr, hlk, rfl, hK, hA, hE, hkc, hks⟩ := C
  intro H locs ls hP hS hl
  obtain ⟨q, hq1, hq2⟩ := bnd_some h
  refine va_callQ (va_runS (As := As) (rest := st) ⟨hx, hb, hml, hown, hts⟩ (hM H.size q hq1) (va_cwS (R := R) (mc := 0) (ms := 0) (bytes := bytes) (maxL := maxL) (ret := ret1) n hts hg hw hrc hrs hd1 hroom) ⟨PreW_calling, pre_of hP hS hK hA hE As⟩ rfl hn (hl.1.trans hml) hst (lv_room hcat) hd ⟨hkc, hks⟩) hS (fun z _ hz => AW_sub hS.1 z hz) (AW_sub hS.1) (fun H1 locs1 hP1 hS1 => ?_)
  exact kk q.1 q.2 hq2 H1 locs1 ls hP1 hS1 hl
theorem g_callSN (C : Cx X cc own Ts nL rm ret) {host : String} (hM : Ct (Xl X) (Xb X) y ws rm1 As S mk o1) (hg : GoodIn Ts ws) (hw : ws = .code y bytes maxL ret1 :: ws') (hrc : rm1.cells = 0) (hrs : rm1.slots = 0) (hlink : Cond.methodLinkNest own index y host ∈ nestWs) (hini : Cond.initialized y.cls ∈ Ts) (hstt : Cond.static y ∈ Ts) (hd1 : y.cls ≠ "java/lang/invoke/MethodHandle" ∧ y.cls ≠ "java/lang/invoke/VarHandle" ∧ (parseMethodDescriptor y.desc).map (fun d => d.parameters.length) = some n) (hroom : rm1.frames + 1 ≤ rm.frames ∧ 8 + (maxL + 11) + rm1.locals ≤ rm.locals) (hn : As.length = n) (hst : stk = As.reverse ++ st) (hcat : (st.map fun v => v.category).sum ≤ 8) (hd : decode cc pc = .ok (.invokestatic index, 3)) (h : bnd o1 f = some r0) (kk : ∀ a S1, f a S1 = some r0 → G X Q S1 (pc + 3) lv ((mk a).toList ++ st)) : G X Q S pc lv stk := by
  obtain ⟨p, l, e, R, s, m, args, below, meth, c, b, kc, ks⟩ := X
  obtain ⟨hx, hb, hml, hown, hts, hr, hlk, rfl, hK, hA, hE, hkc, hks⟩ := C
  intro H locs ls hP hS hl
  obtain ⟨q, hq1, hq2⟩ := bnd_some h
  have cw : va_CN R s args own index y host bytes maxL ret1 ws rm1 0 0 n := va_cnB n hts hg hw hrc hrs (hE.1 _ hlink) (hts _ hini) hd1 hroom
  refine va_callQ (va_runSN (As := As) (rest := st) ⟨hx, hb, hml, hown, hts⟩ (hM H.size q hq1) ⟨cw, hts _ hstt, trivial⟩ ⟨PreW_calling, pre_of hP hS hK hA hE As⟩ rfl hn (hl.1.trans hml) hst (lv_room hcat) hd ⟨hkc, hks⟩) hS (fun z _ hz => AW_sub hS.1 z hz) (AW_sub hS.1) (fun H1 locs1 hP1 hS1 => ?_)
  exact kk q.1 q.2 hq2 H1 locs1 ls hP1 hS1 hl
/-- a call on a text -/
theorem g_callT (C : Cx X cc own Ts nL rm ret) (i : Nat) (hi : i < 16) (hM : Ct (Xl X) (Xb X) y ws rm1 (.ref (bK (Xb X) i) :: As) S mk o1) (hg : GoodIn Ts (wsV own index "java/lang/String" y ws)) (hw : ws = .code y bytes maxL ret1 :: ws') (hrc : rm1.cells = 0) (hrs : rm1.slots = 0) (hd1 : y.cls = "java/lang/String" ∧ y.cls ≠ "java/lang/invoke/MethodHandle" ∧ y.cls ≠ "java/lang/invoke/VarHandle" ∧ (parseMethodDescriptor y.desc).map (fun d => d.parameters.length) = some n) (hroom : rm1.frames + 1 ≤ rm.frames ∧ 8 + (maxL + 11) + rm1.locals ≤ rm.locals) (hn : As.length = n) (hst : stk = As.reverse ++ .ref (bK (Xb X) i) :: st) (hcat : (st.map fun v => v.category).sum ≤ 8) (hd : decode cc pc = .ok (.invokevirtual index, 3)) (h : bnd o1 f = some r0) (kk : ∀ a S1, f a S1 = some r0 → G X Q S1 (pc + 3) lv ((mk a).toList ++ st)) : G X Q S pc lv stk := by
  obtain ⟨p, l, e, R, s, m, args, below, meth, c, b, kc, ks⟩ := X
  obtain ⟨hx, hb, hml, hown, hts, hr, hlk, rfl, hK, hA, hE, hkc, hks⟩ := C
  intro H locs ls hP hS hl
  obtain ⟨q, hq1, hq2⟩ := bnd_some h
  have cw : CallW R s args own "java/lang/String" index y bytes maxL ret1 ws rm1 0 0 n := cwV n hts hg hw hrc hrs hd1 hroom
  refine va_callQ (va_runV (As := As) (rest := st) ⟨hx, hb, hml, hown, hts⟩ (hM H.size q hq1) cw ⟨PreW_calling, vk_recv hE.2.1 hi hS, pre_of hP hS hK hA hE (.ref (bK b i) :: As)⟩ rfl hn (hl.1.trans hml) hst (lv_room hcat) hd ⟨hkc, hks⟩) hS (fun z _ hz => AW_sub hS.1 z hz) (AW_sub hS.1) (fun H1 locs1 hP1 hS1 => ?_)
  exact kk q.1 q.2 hq2 H1 locs1 ls hP1 hS1 hl
/-- the script: an int array that no cell of the world is -/
def Scr (X : MC) (sb L : Nat) (xs : Nat → Int32) : Prop := match X with
  | (p, l, e, R, s, m, args, below, meth, c, b, kc, ks) => va_X sb L xs s s.heap ∧ sb < s.heap.size ∧ ¬ AW b s.heap.size sb
theorem g_sld (C : Cx X cc own Ts nL rm ret) {sb L : Nat} {xs : Nat → Int32} (hc : Scr X sb L xs) {i : Int32} {K : Option α} (h : chk (inb i L) K = some r0) (hd : decode cc pc = .ok (.iaload, 1)) (kk : K = some r0 → G X Q S (pc + 1) lv (.int (xs i.toNatClampNeg) :: st)) : G X Q S pc lv (.int i :: .ref sb :: st) := by
  obtain ⟨p, l, e, R, s, m, args, below, meth, c, b, kc, ks⟩ := X
  obtain ⟨hx, hb, hml, hown, hts, hr, hlk, rfl, hK, hA, hE, hkc, hks⟩ := C
  intro H locs ls hP hS hl
  exact va_sld hx hb hc.1 hc.2.1 hc.2.2 hS (inb_in (chk_some h).1) hd (kk (chk_some h).2 H locs ls hP hS hl)
theorem g_slen (C : Cx X cc own Ts nL rm ret) {sb L : Nat} {xs : Nat → Int32} (hc : Scr X sb L xs) (hd : decode cc pc = .ok (.arraylength, 1)) (kk : G X Q S (pc + 1) lv (.int (nI L) :: st)) : G X Q S pc lv (.ref sb :: st) := by
  obtain ⟨p, l, e, R, s, m, args, below, meth, c, b, kc, ks⟩ := X
  obtain ⟨hx, hb, hml, hown, hts, hr, hlk, rfl, hK, hA, hE, hkc, hks⟩ := C
  intro H locs ls hP hS hl
  exact va_slen hx hb hc.1 hc.2.1 hc.2.2 hS hd (kk H locs ls hP hS hl)
end GROWS3
/-- words of a part of a list -/
theorem mem_drop {L small : List Cond} (p : Nat) (h : (L.drop p).take small.length = small) : ∀ w ∈ small, w ∈ L := fun w hw => List.mem_of_mem_drop (List.mem_of_mem_take (h.symm ▸ hw))

