/-! java/lang/Math.floorDiv(JJ)J -/
def f_J9_floorDiv_f86c9_b27 (v4 : Int64) (S : St) : Option (Int64 × St) :=
  some (v4, S)
def f_J9_floorDiv_f86c9_b0 (a1 : Int64) (a2 : Int64) (S : St) : Option (Int64 × St) :=
  chk (nzL a2) (vlet (a1 / a2) (fun y1 => if 0 ≤ (lg_cmp (a1 ^^^ a2) 0) then (f_J9_floorDiv_f86c9_b27 y1 S)
    else (if (lg_cmp (y1 * a2) a1) = 0 then (f_J9_floorDiv_f86c9_b27 y1 S)
      else (some (y1 - 1, S)))))
def f_J9_floorDiv_f86c9 (a1 : Int64) (a2 : Int64) (S : St) : Option (Int64 × St) := f_J9_floorDiv_f86c9_b0 a1 a2 S
/-! java/lang/Math.floorMod(JJ)J -/
def f_J9_floorMod_f86c9_b25 (v4 : Int64) (S : St) : Option (Int64 × St) :=
  some (v4, S)
def f_J9_floorMod_f86c9_b0 (a1 : Int64) (a2 : Int64) (S : St) : Option (Int64 × St) :=
  chk (nzL a2) (vlet (a1 - a1 / a2 * a2) (fun y1 => if 0 ≤ (lg_cmp (a1 ^^^ a2) 0) then (f_J9_floorMod_f86c9_b25 y1 S)
    else (if (lg_cmp y1 0) = 0 then (f_J9_floorMod_f86c9_b25 y1 S)
      else (some (y1 + a2, S)))))
def f_J9_floorMod_f86c9 (a1 : Int64) (a2 : Int64) (S : St) : Option (Int64 × St) := f_J9_floorMod_f86c9_b0 a1 a2 S
/-! java/lang/Math.floorMod(JI)I -/
def f_J9_floorMod_1978a_b0 (a1 : Int64) (a2 : Int32) (S : St) : Option (Int32 × St) :=
  bnd (f_J9_floorMod_f86c9 a1 (Int32.toInt64 a2) S) (fun r2 S1 => some (Int64.toInt32 r2, S1))
def f_J9_floorMod_1978a (a1 : Int64) (a2 : Int32) (S : St) : Option (Int32 × St) := f_J9_floorMod_1978a_b0 a1 a2 S
/-! StyleRows.isWithin(III)Z -/
def f_X11_isWithin_b15 (w0 : Int32) (S : St) : Option (Int32 × St) :=
  chk (isB w0) (some (w0, S))
def f_X11_isWithin_b14 (S : St) : Option (Int32 × St) :=
  f_X11_isWithin_b15 0 S
def f_X11_isWithin_b0 (a1 : Int32) (a2 : Int32) (a3 : Int32) (S : St) : Option (Int32 × St) :=
  if a1 < a2 then (f_X11_isWithin_b14 S)
    else (if a3 < a1 then (f_X11_isWithin_b14 S)
      else (f_X11_isWithin_b15 1 S))
def f_X11_isWithin (a1 : Int32) (a2 : Int32) (a3 : Int32) (S : St) : Option (Int32 × St) := f_X11_isWithin_b0 a1 a2 a3 S
/-! StyleRows.isVoice(I)Z -/
def f_X11_isVoice_b0 (a1 : Int32) (S : St) : Option (Int32 × St) :=
  bnd (f_X11_isWithin a1 0 3 S) (fun r2 S1 => chk (isB r2) (some (r2, S1)))
def f_X11_isVoice (a1 : Int32) (S : St) : Option (Int32 × St) := f_X11_isVoice_b0 a1 S
/-! StyleRows$Notes.add(IIIII)I -/
def f_X4_add_b0 (a1 : Int32) (a2 : Int32) (a3 : Int32) (a4 : Int32) (a5 : Int32) (S : St) : Option (Int32 × St) :=
  if (gI S 2) < 48 then (chk (inb (gI S 2) 48) (vlet (wr S 13 (gI S 2) a1) (fun S1 => chk (inb (gI S1 2) 48) (vlet (wr S1 14 (gI S1 2) a2) (fun S2 => chk (inb (gI S2 2) 48) (vlet (wr S2 15 (gI S2 2) a3) (fun S3 => chk (inb (gI S3 2) 48) (vlet (wr S3 16 (gI S3 2) a4) (fun S4 => chk (inb (gI S4 2) 48) (vlet (wr S4 17 (gI S4 2) a5) (fun S5 => vlet (pI S5 2 ((gI S5 2) + 1)) (fun S6 => some ((gI S6 2) - 1, S6)))))))))))))
    else (some ((-1004), S))
def f_X4_add (a1 : Int32) (a2 : Int32) (a3 : Int32) (a4 : Int32) (a5 : Int32) (S : St) : Option (Int32 × St) := f_X4_add_b0 a1 a2 a3 a4 a5 S
/-! StyleRows.note(IIIII)I -/
def f_X11_note_b29 (S : St) : Option (Int32 × St) :=
  some ((-1002), S)
def f_X11_note_b56 (S : St) : Option (Int32 × St) :=
  some ((-1002), S)
def f_X11_note_b0 (a1 : Int32) (a2 : Int32) (a3 : Int32) (a4 : Int32) (a5 : Int32) (S : St) : Option (Int32 × St) :=
  bnd (f_X11_isVoice a1 S) (fun r2 S1 => if r2 = 0 then (f_X11_note_b29 S1)
    else (bnd (f_X11_isWithin a2 0 9600 S1) (fun r4 S3 => if r4 = 0 then (f_X11_note_b29 S3)
      else (bnd (f_X11_isWithin a3 1 960 S3) (fun r6 S5 => if r6 = 0 then (f_X11_note_b29 S5)
        else (bnd (f_X11_isWithin a4 12 115 S5) (fun r8 S7 => if r8 = 0 then (f_X11_note_b56 S7)
          else (bnd (f_X11_isWithin a5 0 127 S7) (fun r10 S9 => if r10 = 0 then (f_X11_note_b56 S9)
            else (bnd (f_X4_add a1 a2 a3 a4 a5 S9) (fun r12 S11 => some (r12, S11))))))))))))
def f_X11_note (a1 : Int32) (a2 : Int32) (a3 : Int32) (a4 : Int32) (a5 : Int32) (S : St) : Option (Int32 × St) := f_X11_note_b0 a1 a2 a3 a4 a5 S
/-! StyleRowsModel.in(JJJ)Z -/
def f_X12_in_b18 (w0 : Int32) (S : St) : Option (Int32 × St) :=
  chk (isB w0) (some (w0, S))
def f_X12_in_b17 (S : St) : Option (Int32 × St) :=
  f_X12_in_b18 0 S
def f_X12_in_b0 (a1 : Int64) (a2 : Int64) (a3 : Int64) (S : St) : Option (Int32 × St) :=
  if (lg_cmp a1 a2) < 0 then (f_X12_in_b17 S)
    else (if 0 < (lg_cmp a1 a3) then (f_X12_in_b17 S)
      else (f_X12_in_b18 1 S))
def f_X12_in (a1 : Int64) (a2 : Int64) (a3 : Int64) (S : St) : Option (Int32 × St) := f_X12_in_b0 a1 a2 a3 S
/-! StyleRowsModel.note(IIIII)I -/
def f_X12_note_b64 (S : St) : Option (Int32 × St) :=
  some ((-1002), S)
def f_X12_note_b0 (a1 : Int32) (a2 : Int32) (a3 : Int32) (a4 : Int32) (a5 : Int32) (S : St) : Option (Int32 × St) :=
  bnd (f_X12_in (Int32.toInt64 a1) 0 3 S) (fun r2 S1 => if r2 = 0 then (f_X12_note_b64 S1)
    else (bnd (f_X12_in (Int32.toInt64 a2) 0 9600 S1) (fun r4 S3 => if r4 = 0 then (f_X12_note_b64 S3)
      else (bnd (f_X12_in (Int32.toInt64 a3) 1 960 S3) (fun r6 S5 => if r6 = 0 then (f_X12_note_b64 S5)
        else (bnd (f_X12_in (Int32.toInt64 a4) 12 115 S5) (fun r8 S7 => if r8 = 0 then (f_X12_note_b64 S7)
          else (bnd (f_X12_in (Int32.toInt64 a5) 0 127 S7) (fun r10 S9 => if r10 = 0 then (f_X12_note_b64 S9)
            else (if (gI S9 23) = 48 then (some ((-1004), S9))
              else (chk (inb (gI S9 23) 48) (vlet (wr S9 49 (gI S9 23) a1) (fun S11 => chk (inb (gI S11 23) 48) (vlet (wr S11 50 (gI S11 23) a2) (fun S12 => chk (inb (gI S12 23) 48) (vlet (wr S12 51 (gI S12 23) a3) (fun S13 => chk (inb (gI S13 23) 48) (vlet (wr S13 52 (gI S13 23) a4) (fun S14 => chk (inb (gI S14 23) 48) (vlet (wr S14 53 (gI S14 23) a5) (fun S15 => vlet (pI S15 23 ((gI S15 23) + 1)) (fun S16 => some ((gI S16 23) - 1, S16)))))))))))))))))))))))
def f_X12_note (a1 : Int32) (a2 : Int32) (a3 : Int32) (a4 : Int32) (a5 : Int32) (S : St) : Option (Int32 × St) := f_X12_note_b0 a1 a2 a3 a4 a5 S
/-! StyleRows$Notes.has(I)Z -/
def f_X4_has_b0 (a1 : Int32) (S : St) : Option (Int32 × St) :=
  bnd (f_X11_isWithin a1 0 ((gI S 2) - 1) S) (fun r2 S1 => chk (isB r2) (some (r2, S1)))
def f_X4_has (a1 : Int32) (S : St) : Option (Int32 × St) := f_X4_has_b0 a1 S
/-! StyleRows$Notes.changeMarks(II)I -/
def f_X4_changeMarks_b0 (a1 : Int32) (a2 : Int32) (S : St) : Option (Int32 × St) :=
  chk (inb a1 48) (vlet (rd S 17 a1) (fun x1 => chk (inb a1 48) (vlet (wr S 17 a1 a2) (fun S2 => some (x1, S2)))))
def f_X4_changeMarks (a1 : Int32) (a2 : Int32) (S : St) : Option (Int32 × St) := f_X4_changeMarks_b0 a1 a2 S
/-! StyleRows.mark(II)I -/
def f_X11_mark_b0 (a1 : Int32) (a2 : Int32) (S : St) : Option (Int32 × St) :=
  bnd (f_X4_has a1 S) (fun r2 S1 => if r2 = 0 then (some ((-1001), S1))
    else (bnd (f_X11_isWithin a2 0 127 S1) (fun r4 S3 => if r4 = 0 then (some ((-1002), S3))
      else (bnd (f_X4_changeMarks a1 a2 S3) (fun r6 S5 => some (r6, S5))))))
def f_X11_mark (a1 : Int32) (a2 : Int32) (S : St) : Option (Int32 × St) := f_X11_mark_b0 a1 a2 S
/-! StyleRowsModel.isNote(I)Z -/
def f_X12_isNote_b0 (a1 : Int32) (S : St) : Option (Int32 × St) :=
  bnd (f_X12_in (Int32.toInt64 a1) 0 (Int32.toInt64 ((gI S 23) - 1)) S) (fun r2 S1 => chk (isB r2) (some (r2, S1)))
def f_X12_isNote (a1 : Int32) (S : St) : Option (Int32 × St) := f_X12_isNote_b0 a1 S
/-! StyleRowsModel.mark(II)I -/
def f_X12_mark_b0 (a1 : Int32) (a2 : Int32) (S : St) : Option (Int32 × St) :=
  bnd (f_X12_isNote a1 S) (fun r2 S1 => if r2 = 0 then (some ((-1001), S1))
    else (bnd (f_X12_in (Int32.toInt64 a2) 0 127 S1) (fun r4 S3 => if r4 = 0 then (some ((-1002), S3))
      else (chk (inb a1 48) (vlet (rd S3 53 a1) (fun x5 => chk (inb a1 48) (vlet (wr S3 53 a1 a2) (fun S6 => some (x5, S6)))))))))
def f_X12_mark (a1 : Int32) (a2 : Int32) (S : St) : Option (Int32 × St) := f_X12_mark_b0 a1 a2 S
/-! StyleRows.isTick(I)Z -/
def f_X11_isTick_b0 (a1 : Int32) (S : St) : Option (Int32 × St) :=
  bnd (f_X11_isWithin a1 0 20000 S) (fun r2 S1 => chk (isB r2) (some (r2, S1)))
def f_X11_isTick (a1 : Int32) (S : St) : Option (Int32 × St) := f_X11_isTick_b0 a1 S
/-! StyleRows$Levels.moveUpFrom(I)V -/
def f_X2_moveUpFrom_b5 (rec5 : Int32 × St → Option (Unit × St)) (v1 : Int32) (v2 : Int32) (S : St) : Option (Unit × St) :=
  if v2 ≤ v1 then (vlet (pI S 3 ((gI S 3) + 1)) (fun S2 => some ((), S2)))
    else (chk (inb (v2 - 1) 12) (chk (inb v2 12) (vlet (wr S 18 v2 (rd S 18 (v2 - 1))) (fun S3 => chk (inb (v2 - 1) 12) (chk (inb v2 12) (vlet (wr S3 19 v2 (rd S3 19 (v2 - 1))) (fun S4 => chk (inb (v2 - 1) 12) (chk (inb v2 12) (vlet (wr S4 20 v2 (vp_nar .boolean (rd S4 20 (v2 - 1)))) (fun S5 => rec5 (v2 + (-1), S5)))))))))))
def f_X2_moveUpFrom_l5 (v1 : Int32) (n : Nat) (s : Int32 × St) : Option (Unit × St) :=
  loopN (fun rec5 s => f_X2_moveUpFrom_b5 rec5 v1 s.1 s.2) n s
def f_X2_moveUpFrom_b0 (a1 : Int32) (S : St) : Option (Unit × St) :=
  vlet (gI S 3) (fun x1 => f_X2_moveUpFrom_l5 a1 fuel (x1, S))
def f_X2_moveUpFrom (a1 : Int32) (S : St) : Option (Unit × St) := f_X2_moveUpFrom_b0 a1 S
/-! StyleRows$Levels.put(IIZ)I -/
def f_X2_put_b85 (v1 : Int32) (v2 : Int32) (v3 : Int32) (v4 : Int32) (S : St) : Option (Int32 × St) :=
  chk (inb v4 12) (vlet (wr S 18 v4 v1) (fun S1 => chk (inb v4 12) (vlet (wr S1 19 v4 v2) (fun S2 => chk (inb v4 12) (vlet (wr S2 20 v4 (vp_nar .boolean v3)) (fun S3 => some (gI S3 3, S3)))))))
def f_X2_put_b74 (v1 : Int32) (v2 : Int32) (v3 : Int32) (v4 : Int32) (v5 : Int32) (S : St) : Option (Int32 × St) :=
  if v5 = 0 then (bnd (f_X2_moveUpFrom v4 S) (fun _u4 S4 => f_X2_put_b85 v1 v2 v3 v4 S4))
    else (f_X2_put_b85 v1 v2 v3 v4 S)
def f_X2_put_b54 (v1 : Int32) (v2 : Int32) (v3 : Int32) (v4 : Int32) (w0 : Int32) (S : St) : Option (Int32 × St) :=
  if w0 = 0 then (if (gI S 3) < 12 then (f_X2_put_b74 v1 v2 v3 v4 w0 S)
      else (some ((-1004), S)))
    else (f_X2_put_b74 v1 v2 v3 v4 w0 S)
def f_X2_put_b53 (v1 : Int32) (v2 : Int32) (v3 : Int32) (v4 : Int32) (S : St) : Option (Int32 × St) :=
  f_X2_put_b54 v1 v2 v3 v4 0 S
def f_X2_put_b29 (v1 : Int32) (v2 : Int32) (v3 : Int32) (v4 : Int32) (S : St) : Option (Int32 × St) :=
  if (gI S 3) ≤ v4 then (f_X2_put_b53 v1 v2 v3 v4 S)
    else (chk (inb v4 12) (if (rd S 18 v4) = v1 then (f_X2_put_b54 v1 v2 v3 v4 1 S)
      else (f_X2_put_b53 v1 v2 v3 v4 S)))
def f_X2_put_b3 (rec3 : Int32 × St → Option (Int32 × St)) (v1 : Int32) (v2 : Int32) (v3 : Int32) (v4 : Int32) (S : St) : Option (Int32 × St) :=
  if (gI S 3) ≤ v4 then (f_X2_put_b29 v1 v2 v3 v4 S)
    else (chk (inb v4 12) (if v1 ≤ (rd S 18 v4) then (f_X2_put_b29 v1 v2 v3 v4 S)
      else (rec3 (v4 + 1, S))))
def f_X2_put_l3 (v1 : Int32) (v2 : Int32) (v3 : Int32) (n : Nat) (s : Int32 × St) : Option (Int32 × St) :=
  loopN (fun rec3 s => f_X2_put_b3 rec3 v1 v2 v3 s.1 s.2) n s
def f_X2_put_b0 (a1 : Int32) (a2 : Int32) (a3 : Int32) (S : St) : Option (Int32 × St) :=
  f_X2_put_l3 a1 a2 a3 fuel (0, S)
def f_X2_put (a1 : Int32) (a2 : Int32) (a3 : Int32) (S : St) : Option (Int32 × St) := f_X2_put_b0 a1 a2 a3 S
/-! StyleRows.level(IIZ)I -/
def f_X11_level_b17 (S : St) : Option (Int32 × St) :=
  some ((-1002), S)
def f_X11_level_b0 (a1 : Int32) (a2 : Int32) (a3 : Int32) (S : St) : Option (Int32 × St) :=
  bnd (f_X11_isTick a1 S) (fun r2 S1 => if r2 = 0 then (f_X11_level_b17 S1)
    else (bnd (f_X11_isWithin a2 1 127 S1) (fun r4 S3 => if r4 = 0 then (f_X11_level_b17 S3)
      else (bnd (f_X2_put a1 a2 a3 S3) (fun r6 S5 => some (r6, S5))))))
def f_X11_level (a1 : Int32) (a2 : Int32) (a3 : Int32) (S : St) : Option (Int32 × St) := f_X11_level_b0 a1 a2 a3 S
/-! StyleRowsModel.level(IIZ)I -/
def f_X12_level_b24 (S : St) : Option (Int32 × St) :=
  some ((-1002), S)
def f_X12_level_b110 (v1 : Int32) (v2 : Int32) (v3 : Int32) (v4 : Int32) (S : St) : Option (Int32 × St) :=
  chk (inb v4 12) (vlet (wr S 54 v4 v1) (fun S5 => chk (inb v4 12) (vlet (wr S5 55 v4 v2) (fun S6 => chk (inb v4 12) (vlet (wr S6 56 v4 (vp_nar .boolean v3)) (fun S7 => some (gI S7 24, S7)))))))
def f_X12_level_b88 (v1 : Int32) (v2 : Int32) (v3 : Int32) (v4 : Int32) (S : St) : Option (Int32 × St) :=
  if v4 = (-1) then (vlet (gI S 24) (fun x8 => vlet (pI S 24 ((gI S 24) + 1)) (fun S9 => f_X12_level_b110 v1 v2 v3 x8 S9)))
    else (f_X12_level_b110 v1 v2 v3 v4 S)
def f_X12_level_b61 (rec34 : Int32 × Int32 × St → Option (Int32 × St)) (v1 : Int32) (v2 : Int32) (v3 : Int32) (v5 : Int32) (w0 : Int32) (S : St) : Option (Int32 × St) :=
  rec34 (w0, v5 + 1, S)
def f_X12_level_b34 (rec34 : Int32 × Int32 × St → Option (Int32 × St)) (v1 : Int32) (v2 : Int32) (v3 : Int32) (v4 : Int32) (v5 : Int32) (S : St) : Option (Int32 × St) :=
  if (gI S 24) ≤ v5 then (if v4 = (-1) then (if (gI S 24) = 12 then (some ((-1004), S))
        else (f_X12_level_b88 v1 v2 v3 v4 S))
      else (f_X12_level_b88 v1 v2 v3 v4 S))
    else (chk (inb v5 12) (if (rd S 54 v5) = v1 then (f_X12_level_b61 rec34 v1 v2 v3 v5 v5 S)
      else (f_X12_level_b61 rec34 v1 v2 v3 v5 v4 S)))
def f_X12_level_l34 (v1 : Int32) (v2 : Int32) (v3 : Int32) (n : Nat) (s : Int32 × Int32 × St) : Option (Int32 × St) :=
  loopN (fun rec34 s => f_X12_level_b34 rec34 v1 v2 v3 s.1 s.2.1 s.2.2) n s
def f_X12_level_b0 (a1 : Int32) (a2 : Int32) (a3 : Int32) (S : St) : Option (Int32 × St) :=
  bnd (f_X12_in (Int32.toInt64 a1) 0 20000 S) (fun r2 S1 => if r2 = 0 then (f_X12_level_b24 S1)
    else (bnd (f_X12_in (Int32.toInt64 a2) 1 127 S1) (fun r4 S3 => if r4 = 0 then (f_X12_level_b24 S3)
      else (f_X12_level_l34 a1 a2 a3 fuel ((-1), 0, S3)))))
def f_X12_level (a1 : Int32) (a2 : Int32) (a3 : Int32) (S : St) : Option (Int32 × St) := f_X12_level_b0 a1 a2 a3 S
/-! StyleRows$Score.beat(II)V -/
def f_X9_beat_b0 (a1 : Int32) (a2 : Int32) (S : St) : Option (Unit × St) :=
  vlet (pI S 0 a1) (fun S1 => vlet (pI S1 1 a2) (fun S2 => some ((), S2)))
def f_X9_beat (a1 : Int32) (a2 : Int32) (S : St) : Option (Unit × St) := f_X9_beat_b0 a1 a2 S
/-! StyleRows.meter(II)I -/
def f_X11_meter_b21 (S : St) : Option (Int32 × St) :=
  some ((-1002), S)
def f_X11_meter_b0 (a1 : Int32) (a2 : Int32) (S : St) : Option (Int32 × St) :=
  bnd (f_X11_isWithin a1 1 12 S) (fun r2 S1 => if r2 = 0 then (f_X11_meter_b21 S1)
    else (bnd (f_X11_isWithin a2 1 960 S1) (fun r4 S3 => if r4 = 0 then (f_X11_meter_b21 S3)
      else (bnd (f_X9_beat a1 a2 S3) (fun _u5 S5 => some (1, S5))))))
def f_X11_meter (a1 : Int32) (a2 : Int32) (S : St) : Option (Int32 × St) := f_X11_meter_b0 a1 a2 S
/-! StyleRowsModel.meter(II)I -/
def f_X12_meter_b24 (S : St) : Option (Int32 × St) :=
  some ((-1002), S)
def f_X12_meter_b0 (a1 : Int32) (a2 : Int32) (S : St) : Option (Int32 × St) :=
  bnd (f_X12_in (Int32.toInt64 a1) 1 12 S) (fun r2 S1 => if r2 = 0 then (f_X12_meter_b24 S1)
    else (bnd (f_X12_in (Int32.toInt64 a2) 1 960 S1) (fun r4 S3 => if r4 = 0 then (f_X12_meter_b24 S3)
      else (vlet (pI S3 25 a1) (fun S5 => vlet (pI S5 26 a2) (fun S6 => some (1, S6)))))))
def f_X12_meter (a1 : Int32) (a2 : Int32) (S : St) : Option (Int32 × St) := f_X12_meter_b0 a1 a2 S
/-! StyleRows$Arcs.shareWith(II)Z -/
def f_X0_shareWith_b2 (rec2 : Int32 × St → Option (Int32 × St)) (v1 : Int32) (v2 : Int32) (v3 : Int32) (S : St) : Option (Int32 × St) :=
  if (gI S 4) ≤ v3 then (some (0, S))
    else (chk (inb v3 6) (chk (inb v3 6) (if (imin (rd S 22 v3) v2) ≤ (imax (rd S 21 v3) v1) then (rec2 (v3 + 1, S))
      else (some (1, S)))))
def f_X0_shareWith_l2 (v1 : Int32) (v2 : Int32) (n : Nat) (s : Int32 × St) : Option (Int32 × St) :=
  loopN (fun rec2 s => f_X0_shareWith_b2 rec2 v1 v2 s.1 s.2) n s
def f_X0_shareWith_b0 (a1 : Int32) (a2 : Int32) (S : St) : Option (Int32 × St) :=
  f_X0_shareWith_l2 a1 a2 fuel (0, S)
def f_X0_shareWith (a1 : Int32) (a2 : Int32) (S : St) : Option (Int32 × St) := f_X0_shareWith_b0 a1 a2 S
/-! StyleRows$Arcs.add(III)I -/
def f_X0_add_b0 (a1 : Int32) (a2 : Int32) (a3 : Int32) (S : St) : Option (Int32 × St) :=
  if (gI S 4) < 6 then (chk (inb (gI S 4) 6) (vlet (wr S 21 (gI S 4) a1) (fun S1 => chk (inb (gI S1 4) 6) (vlet (wr S1 22 (gI S1 4) a2) (fun S2 => chk (inb (gI S2 4) 6) (vlet (wr S2 23 (gI S2 4) a3) (fun S3 => vlet (pI S3 4 ((gI S3 4) + 1)) (fun S4 => some (gI S4 4, S4)))))))))
    else (some ((-1004), S))
def f_X0_add (a1 : Int32) (a2 : Int32) (a3 : Int32) (S : St) : Option (Int32 × St) := f_X0_add_b0 a1 a2 a3 S
/-! StyleRows.arc(III)I -/
def f_X11_arc_b32 (S : St) : Option (Int32 × St) :=
  some ((-1002), S)
def f_X11_arc_b0 (a1 : Int32) (a2 : Int32) (a3 : Int32) (S : St) : Option (Int32 × St) :=
  bnd (f_X11_isTick a1 S) (fun r2 S1 => if r2 = 0 then (f_X11_arc_b32 S1)
    else (bnd (f_X11_isTick a2 S1) (fun r4 S3 => if r4 = 0 then (f_X11_arc_b32 S3)
      else (if a2 ≤ a1 then (f_X11_arc_b32 S3)
        else (bnd (f_X11_isWithin a3 (-400) 400 S3) (fun r6 S5 => if r6 = 0 then (f_X11_arc_b32 S5)
          else (bnd (f_X0_shareWith a1 a2 S5) (fun r8 S7 => if r8 = 0 then (bnd (f_X0_add a1 a2 a3 S7) (fun r10 S9 => some (r10, S9)))
            else (some ((-1003), S7))))))))))
def f_X11_arc (a1 : Int32) (a2 : Int32) (a3 : Int32) (S : St) : Option (Int32 × St) := f_X11_arc_b0 a1 a2 a3 S
/-! StyleRowsModel.arc(III)I -/
def f_X12_arc_b30 (S : St) : Option (Int32 × St) :=
  some ((-1002), S)
def f_X12_arc_b72 (rec37 : Int32 × St → Option (Int32 × St)) (v1 : Int32) (v2 : Int32) (v3 : Int32) (v4 : Int32) (S : St) : Option (Int32 × St) :=
  rec37 (v4 + 1, S)
def f_X12_arc_b37 (rec37 : Int32 × St → Option (Int32 × St)) (v1 : Int32) (v2 : Int32) (v3 : Int32) (v4 : Int32) (S : St) : Option (Int32 × St) :=
  if (gI S 27) ≤ v4 then (if (gI S 27) = 6 then (some ((-1004), S))
      else (chk (inb (gI S 27) 6) (vlet (wr S 57 (gI S 27) v1) (fun S3 => chk (inb (gI S3 27) 6) (vlet (wr S3 58 (gI S3 27) v2) (fun S4 => chk (inb (gI S4 27) 6) (vlet (wr S4 59 (gI S4 27) v3) (fun S5 => vlet (pI S5 27 ((gI S5 27) + 1)) (fun S6 => some (gI S6 27, S6))))))))))
    else (chk (inb v4 6) (if (rd S 58 v4) ≤ v1 then (f_X12_arc_b72 rec37 v1 v2 v3 v4 S)
      else (chk (inb v4 6) (if v2 ≤ (rd S 57 v4) then (f_X12_arc_b72 rec37 v1 v2 v3 v4 S)
        else (some ((-1003), S))))))
def f_X12_arc_l37 (v1 : Int32) (v2 : Int32) (v3 : Int32) (n : Nat) (s : Int32 × St) : Option (Int32 × St) :=
  loopN (fun rec37 s => f_X12_arc_b37 rec37 v1 v2 v3 s.1 s.2) n s
def f_X12_arc_b0 (a1 : Int32) (a2 : Int32) (a3 : Int32) (S : St) : Option (Int32 × St) :=
  if a1 < 0 then (f_X12_arc_b30 S)
    else (if 20000 < a2 then (f_X12_arc_b30 S)
      else (if a2 ≤ a1 then (f_X12_arc_b30 S)
        else (bnd (f_X12_in (Int32.toInt64 a3) (-400) 400 S) (fun r2 S1 => if r2 = 0 then (f_X12_arc_b30 S1)
          else (f_X12_arc_l37 a1 a2 a3 fuel (0, S1))))))
def f_X12_arc (a1 : Int32) (a2 : Int32) (a3 : Int32) (S : St) : Option (Int32 × St) := f_X12_arc_b0 a1 a2 a3 S
/-! StyleRows.quotient(JJ)I -/
def f_X11_quotient_b16 (w0 : Int32) (S : St) : Option (Int32 × St) :=
  some (w0, S)
def f_X11_quotient_b0 (a1 : Int64) (a2 : Int64) (S : St) : Option (Int32 × St) :=
  if 0 < (lg_cmp a2 0) then (bnd (f_J9_floorDiv_f86c9 a1 a2 S) (fun r2 S1 => f_X11_quotient_b16 (Int64.toInt32 r2) S1))
    else (f_X11_quotient_b16 0 S)
def f_X11_quotient (a1 : Int64) (a2 : Int64) (S : St) : Option (Int32 × St) := f_X11_quotient_b0 a1 a2 S
/-! StyleRows$Levels.at(I)I -/
def f_X2_at_b54 (v3 : Int32) (S : St) : Option (Int32 × St) :=
  chk (inb v3 12) (some (rd S 19 v3, S))
def f_X2_at_b26 (v1 : Int32) (v2 : Int32) (S : St) : Option (Int32 × St) :=
  if v2 = 0 then (some (64, S))
    else (vlet (v2 - 1) (fun x1 => if v2 = (gI S 3) then (f_X2_at_b54 x1 S)
      else (chk (inb v2 12) (if (rd S 20 v2) = 0 then (f_X2_at_b54 x1 S)
        else (chk (inb v2 12) (chk (inb x1 12) (chk (inb x1 12) (vlet ((Int32.toInt64 ((rd S 19 v2) - (rd S 19 x1))) * (Int32.toInt64 (v1 - (rd S 18 x1)))) (fun y2 => chk (inb x1 12) (chk (inb v2 12) (chk (inb x1 12) (bnd (f_X11_quotient y2 (Int32.toInt64 ((rd S 18 v2) - (rd S 18 x1))) S) (fun r4 S3 => some ((rd S 19 x1) + r4, S3))))))))))))))
def f_X2_at_b2 (rec2 : Int32 × St → Option (Int32 × St)) (v1 : Int32) (v2 : Int32) (S : St) : Option (Int32 × St) :=
  if (gI S 3) ≤ v2 then (f_X2_at_b26 v1 v2 S)
    else (chk (inb v2 12) (if v1 < (rd S 18 v2) then (f_X2_at_b26 v1 v2 S)
      else (rec2 (v2 + 1, S))))
def f_X2_at_l2 (v1 : Int32) (n : Nat) (s : Int32 × St) : Option (Int32 × St) :=
  loopN (fun rec2 s => f_X2_at_b2 rec2 v1 s.1 s.2) n s
def f_X2_at_b0 (a1 : Int32) (S : St) : Option (Int32 × St) :=
  f_X2_at_l2 a1 fuel (0, S)
def f_X2_at (a1 : Int32) (S : St) : Option (Int32 × St) := f_X2_at_b0 a1 S
/-! StyleRows.levelAt(I)I -/
def f_X11_levelAt_b24 (w0 : Int32) (S : St) : Option (Int32 × St) :=
  some (w0, S)
def f_X11_levelAt_b0 (a1 : Int32) (S : St) : Option (Int32 × St) :=
  bnd (f_X11_isTick a1 S) (fun r2 S1 => if r2 = 0 then (f_X11_levelAt_b24 (-1002) S1)
    else (bnd (f_X2_at a1 S1) (fun r4 S3 => f_X11_levelAt_b24 r4 S3)))
def f_X11_levelAt (a1 : Int32) (S : St) : Option (Int32 × St) := f_X11_levelAt_b0 a1 S
/-! StyleRowsModel.levelBy(IZ)I -/
def f_X12_levelBy_b108 (rec5 : Int32 × Int32 × St → Option (Int32 × St)) (v1 : Int32) (v2 : Int32) (v4 : Int32) (w0 : Int32) (S : St) : Option (Int32 × St) :=
  rec5 (w0, v4 + 1, S)
def f_X12_levelBy_b95 (rec5 : Int32 × Int32 × St → Option (Int32 × St)) (v1 : Int32) (v2 : Int32) (v3 : Int32) (v4 : Int32) (w0 : Int32) (S : St) : Option (Int32 × St) :=
  if w0 = 0 then (f_X12_levelBy_b108 rec5 v1 v2 v4 v3 S)
    else (f_X12_levelBy_b108 rec5 v1 v2 v4 v4 S)
def f_X12_levelBy_b94 (rec5 : Int32 × Int32 × St → Option (Int32 × St)) (v1 : Int32) (v2 : Int32) (v3 : Int32) (v4 : Int32) (S : St) : Option (Int32 × St) :=
  f_X12_levelBy_b95 rec5 v1 v2 v3 v4 0 S
def f_X12_levelBy_b90 (rec5 : Int32 × Int32 × St → Option (Int32 × St)) (v1 : Int32) (v2 : Int32) (v3 : Int32) (v4 : Int32) (S : St) : Option (Int32 × St) :=
  f_X12_levelBy_b95 rec5 v1 v2 v3 v4 1 S
def f_X12_levelBy_b54 (rec5 : Int32 × Int32 × St → Option (Int32 × St)) (v1 : Int32) (v2 : Int32) (v3 : Int32) (v4 : Int32) (S : St) : Option (Int32 × St) :=
  f_X12_levelBy_b95 rec5 v1 v2 v3 v4 0 S
def f_X12_levelBy_b50 (rec5 : Int32 × Int32 × St → Option (Int32 × St)) (v1 : Int32) (v2 : Int32) (v3 : Int32) (v4 : Int32) (S : St) : Option (Int32 × St) :=
  f_X12_levelBy_b95 rec5 v1 v2 v3 v4 1 S
def f_X12_levelBy_b5 (rec5 : Int32 × Int32 × St → Option (Int32 × St)) (v1 : Int32) (v2 : Int32) (v3 : Int32) (v4 : Int32) (S : St) : Option (Int32 × St) :=
  if (gI S 24) ≤ v4 then (some (v3, S))
    else (if v2 = 0 then (chk (inb v4 12) (if v1 < (rd S 54 v4) then (f_X12_levelBy_b94 rec5 v1 v2 v3 v4 S)
        else (if v3 = (-1) then (f_X12_levelBy_b90 rec5 v1 v2 v3 v4 S)
          else (chk (inb v4 12) (chk (inb v3 12) (if (rd S 54 v4) ≤ (rd S 54 v3) then (f_X12_levelBy_b94 rec5 v1 v2 v3 v4 S)
            else (f_X12_levelBy_b90 rec5 v1 v2 v3 v4 S)))))))
      else (chk (inb v4 12) (if (rd S 54 v4) ≤ v1 then (f_X12_levelBy_b54 rec5 v1 v2 v3 v4 S)
        else (if v3 = (-1) then (f_X12_levelBy_b50 rec5 v1 v2 v3 v4 S)
          else (chk (inb v4 12) (chk (inb v3 12) (if (rd S 54 v3) ≤ (rd S 54 v4) then (f_X12_levelBy_b54 rec5 v1 v2 v3 v4 S)
            else (f_X12_levelBy_b50 rec5 v1 v2 v3 v4 S))))))))
def f_X12_levelBy_l5 (v1 : Int32) (v2 : Int32) (n : Nat) (s : Int32 × Int32 × St) : Option (Int32 × St) :=
  loopN (fun rec5 s => f_X12_levelBy_b5 rec5 v1 v2 s.1 s.2.1 s.2.2) n s
def f_X12_levelBy_b0 (a1 : Int32) (a2 : Int32) (S : St) : Option (Int32 × St) :=
  f_X12_levelBy_l5 a1 a2 fuel ((-1), 0, S)
def f_X12_levelBy (a1 : Int32) (a2 : Int32) (S : St) : Option (Int32 × St) := f_X12_levelBy_b0 a1 a2 S
/-! StyleRowsModel.floor(JJ)J -/
def f_X12_floor_b47 (w0 : Int64) (S : St) : Option (Int64 × St) :=
  some (w0, S)
def f_X12_floor_b45 (v4 : Int64) (S : St) : Option (Int64 × St) :=
  f_X12_floor_b47 v4 S
def f_X12_floor_b35 (v4 : Int64) (w0 : Int32) (w1 : Int32) (S : St) : Option (Int64 × St) :=
  if w0 = w1 then (f_X12_floor_b45 v4 S)
    else (f_X12_floor_b47 (v4 - 1) S)
def f_X12_floor_b24 (v2 : Int64) (v4 : Int64) (w0 : Int32) (S : St) : Option (Int64 × St) :=
  if 0 ≤ (lg_cmp v2 0) then (f_X12_floor_b35 v4 w0 0 S)
    else (f_X12_floor_b35 v4 w0 1 S)
def f_X12_floor_b0 (a1 : Int64) (a2 : Int64) (S : St) : Option (Int64 × St) :=
  chk (nzL a2) (vlet (a1 / a2) (fun y1 => chk (nzL a2) (if (lg_cmp (a1 - a1 / a2 * a2) 0) = 0 then (f_X12_floor_b45 y1 S)
    else (if 0 ≤ (lg_cmp a1 0) then (f_X12_floor_b24 a2 y1 0 S)
      else (f_X12_floor_b24 a2 y1 1 S)))))
def f_X12_floor (a1 : Int64) (a2 : Int64) (S : St) : Option (Int64 × St) := f_X12_floor_b0 a1 a2 S
/-! StyleRowsModel.highAt(I)I -/
def f_X12_highAt_b36 (v2 : Int32) (S : St) : Option (Int32 × St) :=
  chk (inb v2 12) (some (rd S 55 v2, S))
def f_X12_highAt_b0 (a1 : Int32) (S : St) : Option (Int32 × St) :=
  bnd (f_X12_levelBy a1 0 S) (fun r2 S1 => bnd (f_X12_levelBy a1 1 S1) (fun r4 S3 => if r2 = (-1) then (some (64, S3))
    else (if r4 = (-1) then (f_X12_highAt_b36 r2 S3)
      else (chk (inb r4 12) (if (rd S3 56 r4) = 0 then (f_X12_highAt_b36 r2 S3)
        else (chk (inb r2 12) (chk (inb r4 12) (chk (inb r2 12) (chk (inb r2 12) (chk (inb r4 12) (chk (inb r2 12) (bnd (f_X12_floor ((Int32.toInt64 ((rd S3 55 r4) - (rd S3 55 r2))) * (Int32.toInt64 (a1 - (rd S3 54 r2)))) (Int32.toInt64 ((rd S3 54 r4) - (rd S3 54 r2))) S3) (fun r6 S5 => some ((rd S3 55 r2) + (Int64.toInt32 r6), S5))))))))))))))
def f_X12_highAt (a1 : Int32) (S : St) : Option (Int32 × St) := f_X12_highAt_b0 a1 S
/-! StyleRowsModel.levelAt(I)I -/
def f_X12_levelAt_b23 (w0 : Int32) (S : St) : Option (Int32 × St) :=
  some (w0, S)
def f_X12_levelAt_b0 (a1 : Int32) (S : St) : Option (Int32 × St) :=
  bnd (f_X12_in (Int32.toInt64 a1) 0 20000 S) (fun r2 S1 => if r2 = 0 then (f_X12_levelAt_b23 (-1002) S1)
    else (bnd (f_X12_highAt a1 S1) (fun r4 S3 => f_X12_levelAt_b23 r4 S3)))
def f_X12_levelAt (a1 : Int32) (S : St) : Option (Int32 × St) := f_X12_levelAt_b0 a1 S
/-! StyleRows$Arcs.bent(I)I -/
def f_X0_bent_b2 (rec2 : Int32 × St → Option (Int32 × St)) (v1 : Int32) (v2 : Int32) (S : St) : Option (Int32 × St) :=
  if (gI S 4) ≤ v2 then (some (v1, S))
    else (chk (inb v2 6) (chk (inb v2 6) (bnd (f_X11_isWithin v1 (rd S 21 v2) (rd S 22 v2) S) (fun r2 S1 => if r2 = 0 then (rec2 (v2 + 1, S1))
      else (chk (inb v2 6) (chk (inb v2 6) (vlet (Int32.toInt64 ((rd S1 22 v2) - (rd S1 21 v2))) (fun y3 => chk (inb v2 6) (chk (inb v2 6) (chk (inb v2 6) (bnd (f_X11_quotient (((4 * (Int32.toInt64 (rd S1 23 v2))) * (Int32.toInt64 (v1 - (rd S1 21 v2)))) * (Int32.toInt64 ((rd S1 22 v2) - v1))) (y3 * y3) S1) (fun r5 S4 => some (v1 + r5, S4)))))))))))))
def f_X0_bent_l2 (v1 : Int32) (n : Nat) (s : Int32 × St) : Option (Int32 × St) :=
  loopN (fun rec2 s => f_X0_bent_b2 rec2 v1 s.1 s.2) n s
def f_X0_bent_b0 (a1 : Int32) (S : St) : Option (Int32 × St) :=
  f_X0_bent_l2 a1 fuel (0, S)
def f_X0_bent (a1 : Int32) (S : St) : Option (Int32 × St) := f_X0_bent_b0 a1 S
/-! StyleRows.timeOf(I)I -/
def f_X11_timeOf_b24 (w0 : Int32) (S : St) : Option (Int32 × St) :=
  some (w0, S)
def f_X11_timeOf_b0 (a1 : Int32) (S : St) : Option (Int32 × St) :=
  bnd (f_X11_isTick a1 S) (fun r2 S1 => if r2 = 0 then (f_X11_timeOf_b24 (-1002) S1)
    else (bnd (f_X0_bent a1 S1) (fun r4 S3 => f_X11_timeOf_b24 r4 S3)))
def f_X11_timeOf (a1 : Int32) (S : St) : Option (Int32 × St) := f_X11_timeOf_b0 a1 S
/-! StyleRowsModel.time(I)I -/
def f_X12_time_b89 (rec4 : Int32 × Int32 × St → Option (Int32 × St)) (v1 : Int32) (v2 : Int32) (v3 : Int32) (S : St) : Option (Int32 × St) :=
  rec4 (v2, v3 + 1, S)
def f_X12_time_b4 (rec4 : Int32 × Int32 × St → Option (Int32 × St)) (v1 : Int32) (v2 : Int32) (v3 : Int32) (S : St) : Option (Int32 × St) :=
  if (gI S 27) ≤ v3 then (some (v1 + v2, S))
    else (chk (inb v3 6) (if v1 ≤ (rd S 57 v3) then (f_X12_time_b89 rec4 v1 v2 v3 S)
      else (chk (inb v3 6) (if (rd S 58 v3) ≤ v1 then (f_X12_time_b89 rec4 v1 v2 v3 S)
        else (chk (inb v3 6) (chk (inb v3 6) (vlet (Int32.toInt64 ((rd S 58 v3) - (rd S 57 v3))) (fun y1 => chk (inb v3 6) (chk (inb v3 6) (chk (inb v3 6) (bnd (f_X12_floor (((4 * (Int32.toInt64 (rd S 59 v3))) * (Int32.toInt64 (v1 - (rd S 57 v3)))) * (Int32.toInt64 ((rd S 58 v3) - v1))) (y1 * y1) S) (fun r3 S2 => vlet (Int64.toInt32 r3) (fun x4 => f_X12_time_b89 rec4 v1 x4 v3 S2)))))))))))))
def f_X12_time_l4 (v1 : Int32) (n : Nat) (s : Int32 × Int32 × St) : Option (Int32 × St) :=
  loopN (fun rec4 s => f_X12_time_b4 rec4 v1 s.1 s.2.1 s.2.2) n s
def f_X12_time_b0 (a1 : Int32) (S : St) : Option (Int32 × St) :=
  f_X12_time_l4 a1 fuel (0, 0, S)
def f_X12_time (a1 : Int32) (S : St) : Option (Int32 × St) := f_X12_time_b0 a1 S
/-! StyleRowsModel.timeOf(I)I -/
def f_X12_timeOf_b23 (w0 : Int32) (S : St) : Option (Int32 × St) :=
  some (w0, S)
def f_X12_timeOf_b0 (a1 : Int32) (S : St) : Option (Int32 × St) :=
  bnd (f_X12_in (Int32.toInt64 a1) 0 20000 S) (fun r2 S1 => if r2 = 0 then (f_X12_timeOf_b23 (-1002) S1)
    else (bnd (f_X12_time a1 S1) (fun r4 S3 => f_X12_timeOf_b23 r4 S3)))
def f_X12_timeOf (a1 : Int32) (S : St) : Option (Int32 × St) := f_X12_timeOf_b0 a1 S
/-! StyleRows$Tape.append(IJ)I -/
def f_X10_append_b21 (rec21 : Int32 × St → Option (Int32 × St)) (v2 : Int64) (v4 : Int32) (S : St) : Option (Int32 × St) :=
  if v4 < 0 then (some (gI S 5, S))
    else (chk (inb (gI S 5) 400) (vlet (wr S 24 (gI S 5) (vp_nar .byte (Int8.toInt32 (Int32.toInt8 (Int64.toInt32 (lus v2 (8 * v4))))))) (fun S2 => vlet (pI S2 5 ((gI S2 5) + 1)) (fun S3 => rec21 (v4 + (-1), S3)))))
def f_X10_append_l21 (v2 : Int64) (n : Nat) (s : Int32 × St) : Option (Int32 × St) :=
  loopN (fun rec21 s => f_X10_append_b21 rec21 v2 s.1 s.2) n s
def f_X10_append_b0 (a1 : Int32) (a2 : Int64) (S : St) : Option (Int32 × St) :=
  if a1 ≤ (400 - (gI S 5)) then (vlet (a1 - 1) (fun x1 => f_X10_append_l21 a2 fuel (x1, S)))
    else (some ((-1004), S))
def f_X10_append (a1 : Int32) (a2 : Int64) (S : St) : Option (Int32 × St) := f_X10_append_b0 a1 a2 S
/-! StyleRows.feed(IJ)I -/
def f_X11_feed_b25 (w0 : Int32) (S : St) : Option (Int32 × St) :=
  some (w0, S)
def f_X11_feed_b0 (a1 : Int32) (a2 : Int64) (S : St) : Option (Int32 × St) :=
  bnd (f_X11_isWithin a1 1 8 S) (fun r2 S1 => if r2 = 0 then (f_X11_feed_b25 (-1002) S1)
    else (bnd (f_X10_append a1 a2 S1) (fun r4 S3 => f_X11_feed_b25 r4 S3)))
def f_X11_feed (a1 : Int32) (a2 : Int64) (S : St) : Option (Int32 × St) := f_X11_feed_b0 a1 a2 S
/-! StyleRowsModel.feed(IJ)I -/
def f_X12_feed_b37 (rec37 : Int32 × St → Option (Int32 × St)) (v2 : Int64) (v4 : Int32) (S : St) : Option (Int32 × St) :=
  if v4 < 0 then (some (gI S 29, S))
    else (chk (inb (gI S 29) 400) (vlet (wr S 64 (gI S 29) (Int64.toInt32 ((v2 >>> (Int32.toInt64 (8 * v4) &&& 63)) &&& 255))) (fun S4 => vlet (pI S4 29 ((gI S4 29) + 1)) (fun S5 => rec37 (v4 + (-1), S5)))))
def f_X12_feed_l37 (v2 : Int64) (n : Nat) (s : Int32 × St) : Option (Int32 × St) :=
  loopN (fun rec37 s => f_X12_feed_b37 rec37 v2 s.1 s.2) n s
def f_X12_feed_b0 (a1 : Int32) (a2 : Int64) (S : St) : Option (Int32 × St) :=
  bnd (f_X12_in (Int32.toInt64 a1) 1 8 S) (fun r2 S1 => if r2 = 0 then (some ((-1002), S1))
    else (if ((gI S1 29) + a1) ≤ 400 then (vlet (a1 - 1) (fun x3 => f_X12_feed_l37 a2 fuel (x3, S1)))
      else (some ((-1004), S1))))
def f_X12_feed (a1 : Int32) (a2 : Int64) (S : St) : Option (Int32 × St) := f_X12_feed_b0 a1 a2 S
/-! StyleRows$Rules.dropStaged()V -/
def f_X8_dropStaged_b0 (S : St) : Option (Unit × St) :=
  vlet (pI S 7 (gI S 6)) (fun S1 => some ((), S1))
def f_X8_dropStaged (S : St) : Option (Unit × St) := f_X8_dropStaged_b0 S
/-! StyleRows$Tape.at(I)I -/
def f_X10_at_b27 (w0 : Int32) (S : St) : Option (Int32 × St) :=
  some (w0, S)
def f_X10_at_b26 (S : St) : Option (Int32 × St) :=
  f_X10_at_b27 (-1) S
def f_X10_at_b0 (a1 : Int32) (S : St) : Option (Int32 × St) :=
  if a1 < 0 then (f_X10_at_b26 S)
    else (if (gI S 5) ≤ a1 then (f_X10_at_b26 S)
      else (chk (inb a1 400) (f_X10_at_b27 ((rd S 24 a1) &&& 255) S)))
def f_X10_at (a1 : Int32) (S : St) : Option (Int32 × St) := f_X10_at_b0 a1 S
/-! StyleRows$Reader.kindAt(LStyleRows$Tape;I)I -/
def f_X7_kindAt_b25 (S : St) : Option (Int32 × St) :=
  some (1, S)
def f_X7_kindAt_b56 (w0 : Int32) (S : St) : Option (Int32 × St) :=
  some (w0, S)
def f_X7_kindAt_b0 (a2 : Int32) (S : St) : Option (Int32 × St) :=
  bnd (f_X10_at a2 S) (fun r2 S1 => if r2 = (-1) then (some (0, S1))
    else (if r2 = 32 then (f_X7_kindAt_b25 S1)
      else (if r2 = 10 then (f_X7_kindAt_b25 S1)
        else (bnd (f_X11_isWithin r2 97 122 S1) (fun r4 S3 => if r4 = 0 then (bnd (f_X11_isWithin r2 48 57 S3) (fun r6 S5 => if r6 = 0 then (f_X7_kindAt_b56 4 S5)
            else (f_X7_kindAt_b56 3 S5)))
          else (some (2, S3)))))))
def f_X7_kindAt (a2 : Int32) (S : St) : Option (Int32 × St) := f_X7_kindAt_b0 a2 S
/-! StyleRows$Reader.takePiece(LStyleRows$Tape;)V -/
def f_X7_takePiece_b136 (S : St) : Option (Unit × St) :=
  some ((), S)
def f_X7_takePiece_b97 (rec97 : St → Option (Unit × St)) (S : St) : Option (Unit × St) :=
  if (gI S 5) ≤ (gI S 9) then (f_X7_takePiece_b136 S)
    else (bnd (f_X7_kindAt (gI S 9) S) (fun r7 S6 => if r7 = (gI S6 10) then (vlet (pI S6 9 ((gI S6 9) + 1)) (fun S8 => rec97 S8))
      else (f_X7_takePiece_b136 S6)))
def f_X7_takePiece_l97 (n : Nat) (s : St) : Option (Unit × St) :=
  loopN (fun rec97 s => f_X7_takePiece_b97 rec97  s) n s
def f_X7_takePiece_b77 (w1 : Int32) (S : St) : Option (Unit × St) :=
  vlet (pI S 9 w1) (fun S5 => if (gI S5 10) = 2 then (f_X7_takePiece_l97 fuel S5)
    else (if (gI S5 10) = 3 then (f_X7_takePiece_l97 fuel S5)
      else (some ((), S5))))
def f_X7_takePiece_b44 (S : St) : Option (Unit × St) :=
  bnd (f_X7_kindAt (gI S 8) S) (fun r3 S2 => vlet (pI S2 10 r3) (fun S4 => if (gI S4 10) = 0 then (f_X7_takePiece_b77 (gI S4 8) S4)
    else (f_X7_takePiece_b77 ((gI S4 8) + 1) S4)))
def f_X7_takePiece_b8 (rec8 : St → Option (Unit × St)) (S : St) : Option (Unit × St) :=
  if (gI S 5) ≤ (gI S 8) then (f_X7_takePiece_b44 S)
    else (bnd (f_X7_kindAt (gI S 8) S) (fun r10 S9 => if r10 = 1 then (vlet (pI S9 8 ((gI S9 8) + 1)) (fun S11 => rec8 S11))
      else (f_X7_takePiece_b44 S9)))
def f_X7_takePiece_l8 (n : Nat) (s : St) : Option (Unit × St) :=
  loopN (fun rec8 s => f_X7_takePiece_b8 rec8  s) n s
def f_X7_takePiece_b0 (S : St) : Option (Unit × St) :=
  vlet (pI S 8 (gI S 9)) (fun S1 => f_X7_takePiece_l8 fuel S1)
def f_X7_takePiece (S : St) : Option (Unit × St) := f_X7_takePiece_b0 S
/-! StyleRows$Rules.areFull()Z -/
def f_X8_areFull_b14 (w0 : Int32) (S : St) : Option (Int32 × St) :=
  chk (isB w0) (some (w0, S))
def f_X8_areFull_b0 (S : St) : Option (Int32 × St) :=
  if (gI S 7) < 24 then (f_X8_areFull_b14 0 S)
    else (f_X8_areFull_b14 1 S)
def f_X8_areFull (S : St) : Option (Int32 × St) := f_X8_areFull_b0 S
/-! StyleRows$Reader.isWord(LStyleRows$Tape;Ljava/lang/String;)Z -/
def f_X7_isWord_b24 (S : St) : Option (Int32 × St) :=
  some (0, S)
def f_X7_isWord_b28 (rec28 : Int32 × St → Option (Int32 × St)) (v2 : Nat) (v3 : Int32) (S : St) : Option (Int32 × St) :=
  chk (ltN v2 16) (bnd (f_J0_length_8abf5 v2 S) (fun r5 S4 => if r5 ≤ v3 then (some (1, S4))
    else (bnd (f_X10_at ((gI S4 8) + v3) S4) (fun r8 S7 => chk (ltN v2 16) (bnd (f_J0_charAt_5068e v2 v3 S7) (fun r10 S9 => if r8 = r10 then (rec28 (v3 + 1, S9))
      else (some (0, S9))))))))
def f_X7_isWord_l28 (v2 : Nat) (n : Nat) (s : Int32 × St) : Option (Int32 × St) :=
  loopN (fun rec28 s => f_X7_isWord_b28 rec28 v2 s.1 s.2) n s
def f_X7_isWord_b0 (a2 : Nat) (S : St) : Option (Int32 × St) :=
  if (gI S 10) = 2 then (chk (ltN a2 16) (bnd (f_J0_length_8abf5 a2 S) (fun r2 S1 => if ((gI S 9) - (gI S 8)) = r2 then (f_X7_isWord_l28 a2 fuel (0, S1))
      else (f_X7_isWord_b24 S1))))
    else (f_X7_isWord_b24 S)
def f_X7_isWord (a2 : Nat) (S : St) : Option (Int32 × St) := f_X7_isWord_b0 a2 S
/-! StyleRows$Names.wordOf(I)Ljava/lang/String; -/
def f_X3_wordOf_b0 (a1 : Int32) (S : St) : Option (Nat × St) :=
  if a1 = 0 then (some (0, S))
    else (if a1 = 1 then (some (1, S))
    else (if a1 = 2 then (some (2, S))
    else (if a1 = 3 then (some (3, S))
    else (if a1 = 4 then (some (4, S))
    else (if a1 = 5 then (some (5, S))
    else (if a1 = 6 then (some (6, S))
    else (if a1 = 7 then (some (7, S))
    else (if a1 = 8 then (some (8, S))
    else (if a1 = 9 then (some (9, S))
    else (if a1 = 10 then (some (10, S))
    else (if a1 = 11 then (some (11, S))
    else (if a1 = 12 then (some (12, S))
    else (some (13, S))))))))))))))
def f_X3_wordOf (a1 : Int32) (S : St) : Option (Nat × St) := f_X3_wordOf_b0 a1 S
/-! StyleRows$Reader.nameThere(LStyleRows$Tape;)I -/
def f_X7_nameThere_b2 (rec2 : Int32 × St → Option (Int32 × St)) (v2 : Int32) (S : St) : Option (Int32 × St) :=
  if 13 ≤ v2 then (some ((-1), S))
    else (bnd (f_X3_wordOf v2 S) (fun r2 S1 => bnd (f_X7_isWord r2 S1) (fun r4 S3 => if r4 = 0 then (rec2 (v2 + 1, S3))
      else (some (v2, S3)))))
def f_X7_nameThere_l2 (n : Nat) (s : Int32 × St) : Option (Int32 × St) :=
  loopN (fun rec2 s => f_X7_nameThere_b2 rec2 s.1 s.2) n s
def f_X7_nameThere_b0 (S : St) : Option (Int32 × St) :=
  f_X7_nameThere_l2 fuel (0, S)
def f_X7_nameThere (S : St) : Option (Int32 × St) := f_X7_nameThere_b0 S
/-! StyleRows$Reader.takeNumber(LStyleRows$Tape;II)Z -/
def f_X7_takeNumber_b21 (rec21 : Int32 × St → Option (Int32 × St)) (v2 : Int32) (v3 : Int32) (v4 : Int32) (S : St) : Option (Int32 × St) :=
  if (gI S 9) ≤ v4 then (bnd (f_X11_isWithin (gI S 11) v2 v3 S) (fun r4 S3 => if r4 = 0 then (some (0, S3))
      else (bnd (f_X7_takePiece S3) (fun _u5 S5 => some (1, S5)))))
    else (bnd (f_X10_at v4 S) (fun r7 S6 => vlet (pI S6 11 (imin 1000000 ((((gI S 11) * 10) + r7) - 48))) (fun S8 => rec21 (v4 + 1, S8))))
def f_X7_takeNumber_l21 (v2 : Int32) (v3 : Int32) (n : Nat) (s : Int32 × St) : Option (Int32 × St) :=
  loopN (fun rec21 s => f_X7_takeNumber_b21 rec21 v2 v3 s.1 s.2) n s
def f_X7_takeNumber_b0 (a2 : Int32) (a3 : Int32) (S : St) : Option (Int32 × St) :=
  if (gI S 10) = 3 then (vlet (pI S 11 0) (fun S1 => vlet (gI S1 8) (fun x2 => f_X7_takeNumber_l21 a2 a3 fuel (x2, S1))))
    else (some (0, S))
def f_X7_takeNumber (a2 : Int32) (a3 : Int32) (S : St) : Option (Int32 × St) := f_X7_takeNumber_b0 a2 a3 S
/-! StyleRows$Rules.stage(IIII)V -/
def f_X8_stage_b0 (a1 : Int32) (a2 : Int32) (a3 : Int32) (a4 : Int32) (S : St) : Option (Unit × St) :=
  bnd (f_X8_areFull S) (fun r2 S1 => if r2 = 0 then (chk (inb (gI S1 7) 24) (vlet (wr S1 26 (gI S1 7) a1) (fun S3 => chk (inb (gI S3 7) 24) (vlet (wr S3 27 (gI S3 7) a2) (fun S4 => chk (inb (gI S4 7) 24) (vlet (wr S4 28 (gI S4 7) a3) (fun S5 => chk (inb (gI S5 7) 24) (vlet (wr S5 29 (gI S5 7) a4) (fun S6 => vlet (pI S6 7 ((gI S6 7) + 1)) (fun S7 => some ((), S7)))))))))))
    else (some ((), S1)))
def f_X8_stage (a1 : Int32) (a2 : Int32) (a3 : Int32) (a4 : Int32) (S : St) : Option (Unit × St) := f_X8_stage_b0 a1 a2 a3 a4 S
/-! StyleRows$Reader.takeRule(LStyleRows$Tape;LStyleRows$Rules;)Z -/
def f_X7_takeRule_b128 (v3 : Int32) (v4 : Int32) (v5 : Int32) (v6 : Int32) (S : St) : Option (Int32 × St) :=
  bnd (f_X10_at (gI S 8) S) (fun r14 S13 => if r14 = 59 then (bnd (f_X7_takePiece S13) (fun _u15 S15 => bnd (f_X8_stage v3 v5 v6 v4 S15) (fun _u16 S16 => some (1, S16))))
    else (some (0, S13)))
def f_X7_takeRule_b46 (v3 : Int32) (v4 : Int32) (S : St) : Option (Int32 × St) :=
  bnd (f_X7_nameThere S) (fun r6 S5 => if r6 = (-1) then (some (0, S5))
    else (bnd (f_X7_takePiece S5) (fun _u7 S7 => chk (inb r6 13) (chk (inb r6 13) (bnd (f_X7_takeNumber (tbr 1 r6) (tbr 2 r6) S7) (fun r9 S8 => if r9 = 0 then (some (0, S8))
      else (vlet (gI S8 11) (fun x10 => bnd (f_X7_isWord 15 S8) (fun r12 S11 => if r12 = 0 then (f_X7_takeRule_b128 v3 v4 r6 x10 S11)
        else (bnd (f_X7_takePiece S11) (fun _u17 S17 => bnd (f_X7_takeNumber 0 9 S17) (fun r19 S18 => if r19 = 0 then (some (0, S18))
          else (vlet (gI S18 11) (fun x20 => f_X7_takeRule_b128 v3 x20 r6 x10 S18))))))))))))))
def f_X7_takeRule_b0 (S : St) : Option (Int32 × St) :=
  bnd (f_X8_areFull S) (fun r2 S1 => if r2 = 0 then (bnd (f_X7_isWord 14 S1) (fun r4 S3 => if r4 = 0 then (f_X7_takeRule_b46 (-1) 0 S3)
      else (bnd (f_X7_takePiece S3) (fun _u21 S21 => bnd (f_X7_takeNumber 0 3 S21) (fun r23 S22 => if r23 = 0 then (some (0, S22))
        else (vlet (gI S22 11) (fun x24 => f_X7_takeRule_b46 x24 0 S22)))))))
    else (some (0, S1)))
def f_X7_takeRule (S : St) : Option (Int32 × St) := f_X7_takeRule_b0 S
/-! StyleRows$Reader.findFault(LStyleRows$Tape;LStyleRows$Rules;)I -/
def f_X7_findFault_b16 (rec16 : Int32 × St → Option (Int32 × St)) (v3 : Int32) (S : St) : Option (Int32 × St) :=
  if 24 < v3 then (some (gI S 8, S))
    else (if (gI S 10) = 0 then (some ((-1), S))
      else (bnd (f_X7_takeRule S) (fun r5 S4 => if r5 = 0 then (some (gI S4 8, S4))
        else (rec16 (v3 + 1, S4)))))
def f_X7_findFault_l16 (n : Nat) (s : Int32 × St) : Option (Int32 × St) :=
  loopN (fun rec16 s => f_X7_findFault_b16 rec16 s.1 s.2) n s
def f_X7_findFault_b0 (S : St) : Option (Int32 × St) :=
  bnd (f_X8_dropStaged S) (fun _u1 S1 => vlet (pI S1 9 0) (fun S2 => bnd (f_X7_takePiece S2) (fun _u3 S3 => f_X7_findFault_l16 fuel (0, S3))))
def f_X7_findFault (S : St) : Option (Int32 × St) := f_X7_findFault_b0 S
/-! StyleRows$Tape.clear()V -/
def f_X10_clear_b0 (S : St) : Option (Unit × St) :=
  vlet (pI S 5 0) (fun S1 => some ((), S1))
def f_X10_clear (S : St) : Option (Unit × St) := f_X10_clear_b0 S
/-! StyleRows$Rules.isOutrankedBy(II)Z -/
def f_X8_isOutrankedBy_b29 (w0 : Int32) (S : St) : Option (Int32 × St) :=
  chk (isB w0) (some (w0, S))
def f_X8_isOutrankedBy_b24 (S : St) : Option (Int32 × St) :=
  f_X8_isOutrankedBy_b29 1 S
def f_X8_isOutrankedBy_b0 (a1 : Int32) (a2 : Int32) (S : St) : Option (Int32 × St) :=
  if a1 = (-1) then (f_X8_isOutrankedBy_b24 S)
    else (chk (inb a1 24) (chk (inb a2 24) (if (rd S 29 a2) < (rd S 29 a1) then (f_X8_isOutrankedBy_b29 0 S)
      else (f_X8_isOutrankedBy_b24 S))))
def f_X8_isOutrankedBy (a1 : Int32) (a2 : Int32) (S : St) : Option (Int32 × St) := f_X8_isOutrankedBy_b0 a1 a2 S
/-! StyleRows$Rules.letCount(I)V -/
def f_X8_letCount_b64 (rec2 : Int32 × St → Option (Unit × St)) (v1 : Int32) (v2 : Int32) (S : St) : Option (Unit × St) :=
  rec2 (v2 + 1, S)
def f_X8_letCount_b41 (rec2 : Int32 × St → Option (Unit × St)) (v1 : Int32) (v2 : Int32) (v4 : Int32) (S : St) : Option (Unit × St) :=
  chk (inb v4 52) (bnd (f_X8_isOutrankedBy (rd S 30 v4) v1 S) (fun r4 S3 => if r4 = 0 then (f_X8_letCount_b64 rec2 v1 v2 S3)
    else (chk (inb v4 52) (vlet (wr S3 30 v4 v1) (fun S5 => f_X8_letCount_b64 rec2 v1 v2 S5)))))
def f_X8_letCount_b2 (rec2 : Int32 × St → Option (Unit × St)) (v1 : Int32) (v2 : Int32) (S : St) : Option (Unit × St) :=
  if 4 ≤ v2 then (some ((), S))
    else (chk (inb v1 24) (vlet (rd S 26 v1) (fun x1 => chk (inb v1 24) (vlet ((v2 * 13) + (rd S 27 v1)) (fun x2 => if x1 = (-1) then (f_X8_letCount_b41 rec2 v1 v2 x2 S)
      else (if x1 = v2 then (f_X8_letCount_b41 rec2 v1 v2 x2 S)
        else (f_X8_letCount_b64 rec2 v1 v2 S)))))))
def f_X8_letCount_l2 (v1 : Int32) (n : Nat) (s : Int32 × St) : Option (Unit × St) :=
  loopN (fun rec2 s => f_X8_letCount_b2 rec2 v1 s.1 s.2) n s
def f_X8_letCount_b0 (a1 : Int32) (S : St) : Option (Unit × St) :=
  f_X8_letCount_l2 a1 fuel (0, S)
def f_X8_letCount (a1 : Int32) (S : St) : Option (Unit × St) := f_X8_letCount_b0 a1 S
/-! StyleRows$Rules.keepStaged()I -/
def f_X8_keepStaged_b5 (rec5 : Int32 × St → Option (Int32 × St)) (v1 : Int32) (S : St) : Option (Int32 × St) :=
  if (gI S 7) ≤ v1 then (vlet (pI S 6 (gI S 7)) (fun S2 => some (gI S2 6, S2)))
    else (bnd (f_X8_letCount v1 S) (fun _u3 S3 => rec5 (v1 + 1, S3)))
def f_X8_keepStaged_l5 (n : Nat) (s : Int32 × St) : Option (Int32 × St) :=
  loopN (fun rec5 s => f_X8_keepStaged_b5 rec5 s.1 s.2) n s
def f_X8_keepStaged_b0 (S : St) : Option (Int32 × St) :=
  vlet (gI S 6) (fun x1 => f_X8_keepStaged_l5 fuel (x1, S))
def f_X8_keepStaged (S : St) : Option (Int32 × St) := f_X8_keepStaged_b0 S
/-! StyleRows.read()I -/
def f_X11_read_b42 (w0 : Int32) (S : St) : Option (Int32 × St) :=
  some (w0, S)
def f_X11_read_b0 (S : St) : Option (Int32 × St) :=
  bnd (f_X7_findFault S) (fun r2 S1 => bnd (f_X10_clear S1) (fun _u3 S3 => if r2 = (-1) then (bnd (f_X8_keepStaged S3) (fun r5 S4 => f_X11_read_b42 r5 S4))
    else (f_X11_read_b42 ((-10) - r2) S3)))
def f_X11_read (S : St) : Option (Int32 × St) := f_X11_read_b0 S
/-! StyleRowsModel.at(I)I -/
def f_X12_at_b18 (w0 : Int32) (S : St) : Option (Int32 × St) :=
  some (w0, S)
def f_X12_at_b0 (a1 : Int32) (S : St) : Option (Int32 × St) :=
  if (gI S 29) ≤ a1 then (f_X12_at_b18 (-1) S)
    else (chk (inb a1 400) (f_X12_at_b18 (rd S 64 a1) S))
def f_X12_at (a1 : Int32) (S : St) : Option (Int32 × St) := f_X12_at_b0 a1 S
/-! StyleRowsModel.take()V -/
def f_X12_take_b26 (rec0 : St → Option (Unit × St)) (S : St) : Option (Unit × St) :=
  vlet (pI S 32 ((gI S 32) + 1)) (fun S3 => rec0 S3)
def f_X12_take_b310 (S : St) : Option (Unit × St) :=
  some ((), S)
def f_X12_take_b297 (w1 : Int32) (S : St) : Option (Unit × St) :=
  vlet (pI S 30 w1) (fun S20 => vlet (pI S20 32 ((gI S20 32) + 1)) (fun S21 => f_X12_take_b310 S21))
def f_X12_take_b246 (rec184 : St → Option (Unit × St)) (w1 : Int64) (S : St) : Option (Unit × St) :=
  vlet (pJ S 2 w1) (fun S29 => vlet (pI S29 32 ((gI S29 32) + 1)) (fun S30 => rec184 S30))
def f_X12_take_b184 (rec184 : St → Option (Unit × St)) (S : St) : Option (Unit × St) :=
  bnd (f_X12_at (gI S 32) S) (fun r24 S23 => bnd (f_X12_in (Int32.toInt64 r24) 48 57 S23) (fun r26 S25 => if r26 = 0 then (f_X12_take_b310 S25)
    else (if (lg_cmp (gJ S25 2) 100000) ≤ 0 then (bnd (f_X12_at (gI S25 32) S25) (fun r28 S27 => f_X12_take_b246 rec184 ((((gJ S25 2) * 10) + (Int32.toInt64 r28)) - 48) S27))
      else (f_X12_take_b246 rec184 (gJ S25 2) S25))))
def f_X12_take_l184 (n : Nat) (s : St) : Option (Unit × St) :=
  loopN (fun rec184 s => f_X12_take_b184 rec184  s) n s
def f_X12_take_b142 (rec78 : St → Option (Unit × St)) (w1 : Int64) (S : St) : Option (Unit × St) :=
  vlet (pJ S 2 w1) (fun S36 => vlet (pI S36 32 ((gI S36 32) + 1)) (fun S37 => rec78 S37))
def f_X12_take_b78 (rec78 : St → Option (Unit × St)) (S : St) : Option (Unit × St) :=
  bnd (f_X12_at (gI S 32) S) (fun r33 S32 => bnd (f_X12_in (Int32.toInt64 r33) 97 122 S32) (fun r35 S34 => if r35 = 0 then (f_X12_take_b310 S34)
    else (if 6 ≤ ((gI S34 32) - (gI S34 31)) then (f_X12_take_b142 rec78 (-1) S34)
      else (bnd (f_X12_at (gI S34 32) S34) (fun r39 S38 => f_X12_take_b142 rec78 ((((gJ S34 2) * 32) + (Int32.toInt64 r39)) - 96) S38)))))
def f_X12_take_l78 (n : Nat) (s : St) : Option (Unit × St) :=
  loopN (fun rec78 s => f_X12_take_b78 rec78  s) n s
def f_X12_take_b0 (rec0 : St → Option (Unit × St)) (S : St) : Option (Unit × St) :=
  bnd (f_X12_at (gI S 32) S) (fun r2 S1 => if r2 = 32 then (f_X12_take_b26 rec0 S1)
    else (bnd (f_X12_at (gI S1 32) S1) (fun r5 S4 => if r5 = 10 then (f_X12_take_b26 rec0 S4)
      else (vlet (pI S4 31 (gI S4 32)) (fun S6 => vlet (pJ S6 2 0) (fun S7 => bnd (f_X12_at (gI S7 32) S7) (fun r9 S8 => bnd (f_X12_in (Int32.toInt64 r9) 97 122 S8) (fun r11 S10 => if r11 = 0 then (bnd (f_X12_at (gI S10 32) S10) (fun r13 S12 => bnd (f_X12_in (Int32.toInt64 r13) 48 57 S12) (fun r15 S14 => if r15 = 0 then (bnd (f_X12_at (gI S14 32) S14) (fun r17 S16 => if r17 = (-1) then (f_X12_take_b297 0 S16)
            else (bnd (f_X12_at (gI S16 32) S16) (fun r19 S18 => if r19 = 59 then (f_X12_take_b297 3 S18)
              else (f_X12_take_b297 4 S18)))))
          else (vlet (pI S14 30 2) (fun S22 => f_X12_take_l184 fuel S22)))))
        else (vlet (pI S10 30 1) (fun S31 => f_X12_take_l78 fuel S31))))))))))
def f_X12_take_l0 (n : Nat) (s : St) : Option (Unit × St) :=
  loopN (fun rec0 s => f_X12_take_b0 rec0  s) n s
def f_X12_take (S : St) : Option (Unit × St) := f_X12_take_l0 fuel S
/-! StyleRowsModel.word(IIIIII)J -/
def f_X12_word_b95 (w0 : Int64) (S : St) : Option (Int64 × St) :=
  some (w0, S)
def f_X12_word_b69 (v5 : Int32) (w0 : Int64) (S : St) : Option (Int64 × St) :=
  if v5 ≤ 0 then (f_X12_word_b95 w0 S)
    else (f_X12_word_b95 (((w0 * 32) + (Int32.toInt64 v5)) - 96) S)
def f_X12_word_b0 (a1 : Int32) (a2 : Int32) (a3 : Int32) (a4 : Int32) (a5 : Int32) (a6 : Int32) (S : St) : Option (Int64 × St) :=
  vlet ((((((((Int32.toInt64 a1) - 96) * 32) + (Int32.toInt64 a2)) - 96) * 32) + (Int32.toInt64 a3)) - 96) (fun y1 => vlet (((y1 * 32) + (Int32.toInt64 a4)) - 96) (fun y2 => if a5 ≤ 0 then (f_X12_word_b69 a6 y2 S)
    else (f_X12_word_b69 a6 (((y2 * 32) + (Int32.toInt64 a5)) - 96) S)))
def f_X12_word (a1 : Int32) (a2 : Int32) (a3 : Int32) (a4 : Int32) (a5 : Int32) (a6 : Int32) (S : St) : Option (Int64 × St) := f_X12_word_b0 a1 a2 a3 a4 a5 a6 S
/-! StyleRowsModel.lowest(I)I -/
def f_X12_lowest_b22 (w0 : Int32) (S : St) : Option (Int32 × St) :=
  some (w0, S)
def f_X12_lowest_b17 (S : St) : Option (Int32 × St) :=
  f_X12_lowest_b22 1 S
def f_X12_lowest_b0 (a1 : Int32) (S : St) : Option (Int32 × St) :=
  if a1 ≤ 3 then (f_X12_lowest_b17 S)
    else (if a1 = 7 then (f_X12_lowest_b17 S)
      else (if a1 = 9 then (f_X12_lowest_b17 S)
        else (f_X12_lowest_b22 0 S)))
def f_X12_lowest (a1 : Int32) (S : St) : Option (Int32 × St) := f_X12_lowest_b0 a1 S
/-! StyleRowsModel.highest(I)I -/
def f_X12_highest_b50 (w0 : Int32) (S : St) : Option (Int32 × St) :=
  some (w0, S)
def f_X12_highest_b26 (v0 : Int32) (S : St) : Option (Int32 × St) :=
  if v0 = 8 then (f_X12_highest_b50 1 S)
    else (if v0 = 12 then (f_X12_highest_b50 99 S)
      else (f_X12_highest_b50 960 S))
def f_X12_highest_b0 (a1 : Int32) (S : St) : Option (Int32 × St) :=
  if 2 < a1 then (if a1 < 4 then (f_X12_highest_b26 a1 S)
      else (if 6 < a1 then (f_X12_highest_b26 a1 S)
        else (f_X12_highest_b50 127 S)))
    else (f_X12_highest_b50 100 S)
def f_X12_highest (a1 : Int32) (S : St) : Option (Int32 × St) := f_X12_highest_b0 a1 S
/-! StyleRowsModel.isNumber(II)Z -/
def f_X12_isNumber_b27 (w0 : Int32) (S : St) : Option (Int32 × St) :=
  chk (isB w0) (some (w0, S))
def f_X12_isNumber_b26 (S : St) : Option (Int32 × St) :=
  f_X12_isNumber_b27 0 S
def f_X12_isNumber_b0 (a1 : Int32) (a2 : Int32) (S : St) : Option (Int32 × St) :=
  if (gI S 30) = 2 then (bnd (f_X12_in (gJ S 2) (Int32.toInt64 a1) (Int32.toInt64 a2) S) (fun r2 S1 => if r2 = 0 then (f_X12_isNumber_b26 S1)
      else (f_X12_isNumber_b27 1 S1)))
    else (f_X12_isNumber_b26 S)
def f_X12_isNumber (a1 : Int32) (a2 : Int32) (S : St) : Option (Int32 × St) := f_X12_isNumber_b0 a1 a2 S
/-! StyleRowsModel.wordOf(I)J -/
def f_X12_wordOf_b0 (a1 : Int32) (S : St) : Option (Int64 × St) :=
  if a1 = 0 then (bnd (f_X12_word 115 104 111 114 116 0 S) (fun r3 S2 => some (r3, S2)))
    else (if a1 = 1 then (bnd (f_X12_word 112 108 97 105 110 0 S) (fun r6 S5 => some (r6, S5)))
    else (if a1 = 2 then (bnd (f_X12_word 104 101 108 100 0 0 S) (fun r9 S8 => some (r9, S8)))
    else (if a1 = 3 then (bnd (f_X12_word 108 101 97 115 116 0 S) (fun r12 S11 => some (r12, S11)))
    else (if a1 = 4 then (bnd (f_X12_word 97 99 99 101 110 116 S) (fun r15 S14 => some (r15, S14)))
    else (if a1 = 5 then (bnd (f_X12_word 102 105 114 115 116 0 S) (fun r18 S17 => some (r18, S17)))
    else (if a1 = 6 then (bnd (f_X12_word 98 101 97 116 0 0 S) (fun r21 S20 => some (r21, S20)))
    else (if a1 = 7 then (bnd (f_X12_word 116 114 105 108 108 0 S) (fun r24 S23 => some (r24, S23)))
    else (if a1 = 8 then (bnd (f_X12_word 117 112 112 101 114 0 S) (fun r27 S26 => some (r27, S26)))
    else (if a1 = 9 then (bnd (f_X12_word 116 117 114 110 0 0 S) (fun r30 S29 => some (r30, S29)))
    else (if a1 = 10 then (bnd (f_X12_word 108 101 97 110 0 0 S) (fun r33 S32 => some (r33, S32)))
    else (if a1 = 11 then (bnd (f_X12_word 114 111 108 108 0 0 S) (fun r36 S35 => some (r36, S35)))
    else (bnd (f_X12_word 108 111 111 115 101 0 S) (fun r38 S37 => some (r38, S37))))))))))))))
def f_X12_wordOf (a1 : Int32) (S : St) : Option (Int64 × St) := f_X12_wordOf_b0 a1 S
/-! StyleRowsModel.named()I -/
def f_X12_named_b2 (rec2 : Int32 × St → Option (Int32 × St)) (v1 : Int32) (S : St) : Option (Int32 × St) :=
  if 13 ≤ v1 then (some ((-1), S))
    else (bnd (f_X12_wordOf v1 S) (fun r2 S1 => if (lg_cmp (gJ S 2) r2) = 0 then (some (v1, S1))
      else (rec2 (v1 + 1, S1))))
def f_X12_named_l2 (n : Nat) (s : Int32 × St) : Option (Int32 × St) :=
  loopN (fun rec2 s => f_X12_named_b2 rec2 s.1 s.2) n s
def f_X12_named_b0 (S : St) : Option (Int32 × St) :=
  f_X12_named_l2 fuel (0, S)
def f_X12_named (S : St) : Option (Int32 × St) := f_X12_named_b0 S
/-! StyleRowsModel.takeRule(I)Z -/
def f_X12_takeRule_b14 (S : St) : Option (Int32 × St) :=
  some (0, S)
def f_X12_takeRule_b222 (w0 : Int32) (S : St) : Option (Int32 × St) :=
  chk (isB w0) (some (w0, S))
def f_X12_takeRule_b209 (S : St) : Option (Int32 × St) :=
  if (gI S 30) = 3 then (f_X12_takeRule_b222 1 S)
    else (f_X12_takeRule_b222 0 S)
def f_X12_takeRule_b98 (v1 : Int32) (w0 : Int32) (S : St) : Option (Int32 × St) :=
  if w0 = (-1) then (some (0, S))
    else (chk (inb v1 24) (vlet (wr S 61 v1 w0) (fun S5 => bnd (f_X12_take S5) (fun _u6 S6 => bnd (f_X12_lowest w0 S6) (fun r8 S7 => bnd (f_X12_highest w0 S7) (fun r10 S9 => bnd (f_X12_isNumber r8 r10 S9) (fun r12 S11 => if r12 = 0 then (some (0, S11))
      else (chk (inb v1 24) (vlet (wr S11 62 v1 (Int64.toInt32 (gJ S11 2))) (fun S13 => bnd (f_X12_take S13) (fun _u14 S14 => if (gI S14 30) = 1 then (bnd (f_X12_word 114 97 110 107 0 0 S14) (fun r16 S15 => if (lg_cmp (gJ S14 2) r16) = 0 then (bnd (f_X12_take S15) (fun _u17 S17 => bnd (f_X12_isNumber 0 9 S17) (fun r19 S18 => if r19 = 0 then (some (0, S18))
            else (chk (inb v1 24) (vlet (wr S18 63 v1 (Int64.toInt32 (gJ S18 2))) (fun S20 => bnd (f_X12_take S20) (fun _u21 S21 => f_X12_takeRule_b209 S21)))))))
          else (f_X12_takeRule_b209 S15)))
        else (f_X12_takeRule_b209 S14))))))))))))
def f_X12_takeRule_b82 (v1 : Int32) (S : St) : Option (Int32 × St) :=
  if (gI S 30) = 1 then (bnd (f_X12_named S) (fun r23 S22 => f_X12_takeRule_b98 v1 r23 S22))
    else (f_X12_takeRule_b98 v1 (-1) S)
def f_X12_takeRule_b0 (a1 : Int32) (S : St) : Option (Int32 × St) :=
  if a1 = 24 then (f_X12_takeRule_b14 S)
    else (if (gI S 30) = 1 then (chk (inb a1 24) (vlet (wr S 60 a1 (-1)) (fun S1 => chk (inb a1 24) (vlet (wr S1 63 a1 0) (fun S2 => bnd (f_X12_word 118 111 105 99 101 0 S2) (fun r4 S3 => if (lg_cmp (gJ S2 2) r4) = 0 then (bnd (f_X12_take S3) (fun _u24 S24 => bnd (f_X12_isNumber 0 3 S24) (fun r26 S25 => if r26 = 0 then (some (0, S25))
          else (chk (inb a1 24) (vlet (wr S25 60 a1 (Int64.toInt32 (gJ S25 2))) (fun S27 => bnd (f_X12_take S27) (fun _u28 S28 => f_X12_takeRule_b82 a1 S28)))))))
        else (f_X12_takeRule_b82 a1 S3)))))))
      else (f_X12_takeRule_b14 S))
def f_X12_takeRule (a1 : Int32) (S : St) : Option (Int32 × St) := f_X12_takeRule_b0 a1 S
/-! StyleRowsModel.read()I -/
def f_X12_read_b47 (v1 : Int32) (v2 : Int32) (S : St) : Option (Int32 × St) :=
  vlet (gI S 31) (fun x4 => vlet (pI S 29 0) (fun S5 => if v2 = 0 then (some ((-10) - x4, S5))
    else (vlet (pI S5 28 v1) (fun S6 => some (gI S6 28, S6)))))
def f_X12_read_b16 (rec16 : Int32 × Int32 × St → Option (Int32 × St)) (v1 : Int32) (v2 : Int32) (S : St) : Option (Int32 × St) :=
  if v2 = 0 then (f_X12_read_b47 v1 v2 S)
    else (if (gI S 30) = 0 then (f_X12_read_b47 v1 v2 S)
      else (bnd (f_X12_takeRule v1 S) (fun r8 S7 => if r8 = 0 then (rec16 (v1, r8, S7))
        else (bnd (f_X12_take S7) (fun _u9 S9 => rec16 (v1 + 1, r8, S9))))))
def f_X12_read_l16 (n : Nat) (s : Int32 × Int32 × St) : Option (Int32 × St) :=
  loopN (fun rec16 s => f_X12_read_b16 rec16 s.1 s.2.1 s.2.2) n s
def f_X12_read_b0 (S : St) : Option (Int32 × St) :=
  vlet (gI S 28) (fun x1 => vlet (pI S 32 0) (fun S2 => bnd (f_X12_take S2) (fun _u3 S3 => f_X12_read_l16 fuel (x1, 1, S3))))
def f_X12_read (S : St) : Option (Int32 × St) := f_X12_read_b0 S
/-! StyleRows$Rules.clear()I -/
def f_X8_clear_b17 (rec17 : Int32 × St → Option (Int32 × St)) (v1 : Int32) (v2 : Int32) (S : St) : Option (Int32 × St) :=
  if 52 ≤ v2 then (some (v1, S))
    else (chk (inb v2 52) (vlet (wr S 30 v2 (-1)) (fun S4 => rec17 (v2 + 1, S4))))
def f_X8_clear_l17 (v1 : Int32) (n : Nat) (s : Int32 × St) : Option (Int32 × St) :=
  loopN (fun rec17 s => f_X8_clear_b17 rec17 v1 s.1 s.2) n s
def f_X8_clear_b0 (S : St) : Option (Int32 × St) :=
  vlet (gI S 6) (fun x1 => vlet (pI S 6 0) (fun S2 => vlet (pI S2 7 0) (fun S3 => f_X8_clear_l17 x1 fuel (0, S3))))
def f_X8_clear (S : St) : Option (Int32 × St) := f_X8_clear_b0 S
/-! StyleRows.plain()I -/
def f_X11_plain_b0 (S : St) : Option (Int32 × St) :=
  bnd (f_X8_clear S) (fun r2 S1 => some (r2, S1))
def f_X11_plain (S : St) : Option (Int32 × St) := f_X11_plain_b0 S
/-! StyleRowsModel.plain()I -/
def f_X12_plain_b0 (S : St) : Option (Int32 × St) :=
  vlet (gI S 28) (fun x1 => vlet (pI S 28 0) (fun S2 => some (x1, S2)))
def f_X12_plain (S : St) : Option (Int32 × St) := f_X12_plain_b0 S
/-! StyleRows$Rules.has(I)Z -/
def f_X8_has_b0 (a1 : Int32) (S : St) : Option (Int32 × St) :=
  bnd (f_X11_isWithin a1 0 ((gI S 6) - 1) S) (fun r2 S1 => chk (isB r2) (some (r2, S1)))
def f_X8_has (a1 : Int32) (S : St) : Option (Int32 × St) := f_X8_has_b0 a1 S
/-! StyleRows.rule(II)I -/
def f_X11_rule_b37 (w0 : Int32) (S : St) : Option (Int32 × St) :=
  some (w0, S)
def f_X11_rule_b34 (S : St) : Option (Int32 × St) :=
  f_X11_rule_b37 (-1001) S
def f_X11_rule_b0 (a1 : Int32) (a2 : Int32) (S : St) : Option (Int32 × St) :=
  bnd (f_X8_has a1 S) (fun r2 S1 => if r2 = 0 then (f_X11_rule_b34 S1)
    else (bnd (f_X11_isWithin a2 0 3 S1) (fun r4 S3 => if r4 = 0 then (f_X11_rule_b34 S3)
      else (chk (inb a2 4) (chk (inb a1 24) (f_X11_rule_b37 (rd S3 (26 + Int32.toNatClampNeg a2) a1) S3))))))
def f_X11_rule (a1 : Int32) (a2 : Int32) (S : St) : Option (Int32 × St) := f_X11_rule_b0 a1 a2 S
/-! StyleRowsModel.rule(II)I -/
def f_X12_rule_b78 (w0 : Int32) (S : St) : Option (Int32 × St) :=
  some (w0, S)
def f_X12_rule_b0 (a1 : Int32) (a2 : Int32) (S : St) : Option (Int32 × St) :=
  bnd (f_X12_in (Int32.toInt64 a1) 0 (Int32.toInt64 ((gI S 28) - 1)) S) (fun r2 S1 => if r2 = 0 then (some ((-1001), S1))
    else (if a2 = 0 then (chk (inb a1 24) (f_X12_rule_b78 (rd S1 60 a1) S1))
      else (if a2 = 1 then (chk (inb a1 24) (f_X12_rule_b78 (rd S1 61 a1) S1))
        else (if a2 = 2 then (chk (inb a1 24) (f_X12_rule_b78 (rd S1 62 a1) S1))
          else (if a2 = 3 then (chk (inb a1 24) (f_X12_rule_b78 (rd S1 63 a1) S1))
            else (f_X12_rule_b78 (-1001) S1))))))
def f_X12_rule (a1 : Int32) (a2 : Int32) (S : St) : Option (Int32 × St) := f_X12_rule_b0 a1 a2 S
/-! StyleRows$Names.has(I)Z -/
def f_X3_has_b0 (a1 : Int32) (S : St) : Option (Int32 × St) :=
  bnd (f_X11_isWithin a1 0 12 S) (fun r2 S1 => chk (isB r2) (some (r2, S1)))
def f_X3_has (a1 : Int32) (S : St) : Option (Int32 × St) := f_X3_has_b0 a1 S
/-! StyleRows$Rules.countingFor(II)I -/
def f_X8_countingFor_b0 (a1 : Int32) (a2 : Int32) (S : St) : Option (Int32 × St) :=
  chk (inb ((a1 * 13) + a2) 52) (some (rd S 30 ((a1 * 13) + a2), S))
def f_X8_countingFor (a1 : Int32) (a2 : Int32) (S : St) : Option (Int32 × St) := f_X8_countingFor_b0 a1 a2 S
/-! StyleRows$Rules.numberFor(II)I -/
def f_X8_numberFor_b28 (w0 : Int32) (S : St) : Option (Int32 × St) :=
  some (w0, S)
def f_X8_numberFor_b0 (a1 : Int32) (a2 : Int32) (S : St) : Option (Int32 × St) :=
  bnd (f_X8_countingFor a1 a2 S) (fun r2 S1 => if r2 = (-1) then (chk (inb a2 13) (f_X8_numberFor_b28 (tbr 0 a2) S1))
    else (chk (inb r2 24) (f_X8_numberFor_b28 (rd S1 28 r2) S1)))
def f_X8_numberFor (a1 : Int32) (a2 : Int32) (S : St) : Option (Int32 × St) := f_X8_numberFor_b0 a1 a2 S
/-! StyleRows.value(II)I -/
def f_X11_value_b29 (w0 : Int32) (S : St) : Option (Int32 × St) :=
  some (w0, S)
def f_X11_value_b26 (S : St) : Option (Int32 × St) :=
  f_X11_value_b29 (-1001) S
def f_X11_value_b0 (a1 : Int32) (a2 : Int32) (S : St) : Option (Int32 × St) :=
  bnd (f_X11_isVoice a1 S) (fun r2 S1 => if r2 = 0 then (f_X11_value_b26 S1)
    else (bnd (f_X3_has a2 S1) (fun r4 S3 => if r4 = 0 then (f_X11_value_b26 S3)
      else (bnd (f_X8_numberFor a1 a2 S3) (fun r6 S5 => f_X11_value_b29 r6 S5)))))
def f_X11_value (a1 : Int32) (a2 : Int32) (S : St) : Option (Int32 × St) := f_X11_value_b0 a1 a2 S
/-! StyleRowsModel.counts(II)I -/
def f_X12_counts_b86 (rec5 : Int32 × Int32 × St → Option (Int32 × St)) (v1 : Int32) (v2 : Int32) (v4 : Int32) (w0 : Int32) (S : St) : Option (Int32 × St) :=
  rec5 (w0, v4 + 1, S)
def f_X12_counts_b85 (rec5 : Int32 × Int32 × St → Option (Int32 × St)) (v1 : Int32) (v2 : Int32) (v3 : Int32) (v4 : Int32) (S : St) : Option (Int32 × St) :=
  f_X12_counts_b86 rec5 v1 v2 v4 v3 S
def f_X12_counts_b80 (rec5 : Int32 × Int32 × St → Option (Int32 × St)) (v1 : Int32) (v2 : Int32) (v4 : Int32) (S : St) : Option (Int32 × St) :=
  f_X12_counts_b86 rec5 v1 v2 v4 v4 S
def f_X12_counts_b52 (rec5 : Int32 × Int32 × St → Option (Int32 × St)) (v1 : Int32) (v2 : Int32) (v3 : Int32) (v4 : Int32) (w0 : Int32) (S : St) : Option (Int32 × St) :=
  if w0 = 0 then (f_X12_counts_b85 rec5 v1 v2 v3 v4 S)
    else (if v3 = (-1) then (f_X12_counts_b80 rec5 v1 v2 v4 S)
      else (chk (inb v4 24) (chk (inb v3 24) (if (rd S 63 v4) < (rd S 63 v3) then (f_X12_counts_b85 rec5 v1 v2 v3 v4 S)
        else (f_X12_counts_b80 rec5 v1 v2 v4 S)))))
def f_X12_counts_b51 (rec5 : Int32 × Int32 × St → Option (Int32 × St)) (v1 : Int32) (v2 : Int32) (v3 : Int32) (v4 : Int32) (S : St) : Option (Int32 × St) :=
  f_X12_counts_b52 rec5 v1 v2 v3 v4 0 S
def f_X12_counts_b47 (rec5 : Int32 × Int32 × St → Option (Int32 × St)) (v1 : Int32) (v2 : Int32) (v3 : Int32) (v4 : Int32) (S : St) : Option (Int32 × St) :=
  f_X12_counts_b52 rec5 v1 v2 v3 v4 1 S
def f_X12_counts_b5 (rec5 : Int32 × Int32 × St → Option (Int32 × St)) (v1 : Int32) (v2 : Int32) (v3 : Int32) (v4 : Int32) (S : St) : Option (Int32 × St) :=
  if (gI S 28) ≤ v4 then (some (v3, S))
    else (chk (inb v4 24) (if (rd S 61 v4) = v2 then (chk (inb v4 24) (if (rd S 60 v4) = (-1) then (f_X12_counts_b47 rec5 v1 v2 v3 v4 S)
        else (chk (inb v4 24) (if (rd S 60 v4) = v1 then (f_X12_counts_b47 rec5 v1 v2 v3 v4 S)
          else (f_X12_counts_b51 rec5 v1 v2 v3 v4 S)))))
      else (f_X12_counts_b51 rec5 v1 v2 v3 v4 S)))
def f_X12_counts_l5 (v1 : Int32) (v2 : Int32) (n : Nat) (s : Int32 × Int32 × St) : Option (Int32 × St) :=
  loopN (fun rec5 s => f_X12_counts_b5 rec5 v1 v2 s.1 s.2.1 s.2.2) n s
def f_X12_counts_b0 (a1 : Int32) (a2 : Int32) (S : St) : Option (Int32 × St) :=
  f_X12_counts_l5 a1 a2 fuel ((-1), 0, S)
def f_X12_counts (a1 : Int32) (a2 : Int32) (S : St) : Option (Int32 × St) := f_X12_counts_b0 a1 a2 S
/-! StyleRowsModel.usual(I)I -/
def f_X12_usual_b96 (S : St) : Option (Int32 × St) :=
  some (0, S)
def f_X12_usual_b0 (a1 : Int32) (S : St) : Option (Int32 × St) :=
  if a1 = 0 then (some (50, S))
    else (if a1 = 1 then (some (90, S))
    else (if a1 = 2 then (some (100, S))
    else (if a1 = 3 then (some (10, S))
    else (if a1 = 4 then (some (16, S))
    else (if a1 = 5 then (some (8, S))
    else (if a1 = 6 then (some (4, S))
    else (if a1 = 7 then (some (30, S))
    else (if a1 = 8 then (f_X12_usual_b96 S)
    else (if a1 = 9 then (some (20, S))
    else (if a1 = 10 then (some (40, S))
    else (if a1 = 11 then (some (12, S))
    else (f_X12_usual_b96 S))))))))))))
def f_X12_usual (a1 : Int32) (S : St) : Option (Int32 × St) := f_X12_usual_b0 a1 S
/-! StyleRowsModel.number(II)I -/
def f_X12_number_b25 (w0 : Int32) (S : St) : Option (Int32 × St) :=
  some (w0, S)
def f_X12_number_b0 (a1 : Int32) (a2 : Int32) (S : St) : Option (Int32 × St) :=
  bnd (f_X12_counts a1 a2 S) (fun r2 S1 => if r2 = (-1) then (bnd (f_X12_usual a2 S1) (fun r4 S3 => f_X12_number_b25 r4 S3))
    else (chk (inb r2 24) (f_X12_number_b25 (rd S1 62 r2) S1)))
def f_X12_number (a1 : Int32) (a2 : Int32) (S : St) : Option (Int32 × St) := f_X12_number_b0 a1 a2 S
/-! StyleRowsModel.value(II)I -/
def f_X12_value_b36 (w0 : Int32) (S : St) : Option (Int32 × St) :=
  some (w0, S)
def f_X12_value_b33 (S : St) : Option (Int32 × St) :=
  f_X12_value_b36 (-1001) S
def f_X12_value_b0 (a1 : Int32) (a2 : Int32) (S : St) : Option (Int32 × St) :=
  bnd (f_X12_in (Int32.toInt64 a1) 0 3 S) (fun r2 S1 => if r2 = 0 then (f_X12_value_b33 S1)
    else (bnd (f_X12_in (Int32.toInt64 a2) 0 12 S1) (fun r4 S3 => if r4 = 0 then (f_X12_value_b33 S3)
      else (bnd (f_X12_number a1 a2 S3) (fun r6 S5 => f_X12_value_b36 r6 S5)))))
def f_X12_value (a1 : Int32) (a2 : Int32) (S : St) : Option (Int32 × St) := f_X12_value_b0 a1 a2 S
/-! StyleRows.why(II)I -/
def f_X11_why_b29 (w0 : Int32) (S : St) : Option (Int32 × St) :=
  some (w0, S)
def f_X11_why_b26 (S : St) : Option (Int32 × St) :=
  f_X11_why_b29 (-1001) S
def f_X11_why_b0 (a1 : Int32) (a2 : Int32) (S : St) : Option (Int32 × St) :=
  bnd (f_X11_isVoice a1 S) (fun r2 S1 => if r2 = 0 then (f_X11_why_b26 S1)
    else (bnd (f_X3_has a2 S1) (fun r4 S3 => if r4 = 0 then (f_X11_why_b26 S3)
      else (bnd (f_X8_countingFor a1 a2 S3) (fun r6 S5 => f_X11_why_b29 r6 S5)))))
def f_X11_why (a1 : Int32) (a2 : Int32) (S : St) : Option (Int32 × St) := f_X11_why_b0 a1 a2 S
/-! StyleRowsModel.why(II)I -/
def f_X12_why_b36 (w0 : Int32) (S : St) : Option (Int32 × St) :=
  some (w0, S)
def f_X12_why_b33 (S : St) : Option (Int32 × St) :=
  f_X12_why_b36 (-1001) S
def f_X12_why_b0 (a1 : Int32) (a2 : Int32) (S : St) : Option (Int32 × St) :=
  bnd (f_X12_in (Int32.toInt64 a1) 0 3 S) (fun r2 S1 => if r2 = 0 then (f_X12_why_b33 S1)
    else (bnd (f_X12_in (Int32.toInt64 a2) 0 12 S1) (fun r4 S3 => if r4 = 0 then (f_X12_why_b33 S3)
      else (bnd (f_X12_counts a1 a2 S3) (fun r6 S5 => f_X12_why_b36 r6 S5)))))
def f_X12_why (a1 : Int32) (a2 : Int32) (S : St) : Option (Int32 × St) := f_X12_why_b0 a1 a2 S
/-! StyleRows$Events.clear()V -/
def f_X1_clear_b0 (S : St) : Option (Unit × St) :=
  vlet (pI S 19 0) (fun S1 => vlet (pI S1 20 0) (fun S2 => some ((), S2)))
def f_X1_clear (S : St) : Option (Unit × St) := f_X1_clear_b0 S
/-! StyleRows$Performer.takeNote(LStyleRows$Notes;I)V -/
def f_X6_takeNote_b0 (a2 : Int32) (S : St) : Option (Unit × St) :=
  vlet (pI S 12 a2) (fun S1 => chk (inb a2 48) (vlet (pI S1 13 (rd S1 13 a2)) (fun S2 => chk (inb a2 48) (vlet (pI S2 14 (rd S2 16 a2)) (fun S3 => chk (inb a2 48) (vlet (pI S3 15 (rd S3 17 a2)) (fun S4 => some ((), S4))))))))
def f_X6_takeNote (a2 : Int32) (S : St) : Option (Unit × St) := f_X6_takeNote_b0 a2 S
/-! StyleRows$Performer.isMarked(I)Z -/
def f_X6_isMarked_b14 (w0 : Int32) (S : St) : Option (Int32 × St) :=
  chk (isB w0) (some (w0, S))
def f_X6_isMarked_b0 (a1 : Int32) (S : St) : Option (Int32 × St) :=
  if ((gI S 15) &&& a1) = 0 then (f_X6_isMarked_b14 0 S)
    else (f_X6_isMarked_b14 1 S)
def f_X6_isMarked (a1 : Int32) (S : St) : Option (Int32 × St) := f_X6_isMarked_b0 a1 S
/-! StyleRows$Performer.longOf(ILStyleRows$Rules;)I -/
def f_X6_longOf_b25 (v1 : Int32) (w0 : Int32) (S : St) : Option (Int32 × St) :=
  bnd (f_X8_numberFor (gI S 13) w0 S) (fun r6 S5 => bnd (f_X8_numberFor (gI S5 13) 3 S5) (fun r8 S7 => vlet (imin r8 v1) (fun x9 => chk (nzI 100) (some (imax x9 ((v1 * r6) / 100), S7)))))
def f_X6_longOf_b0 (a1 : Int32) (S : St) : Option (Int32 × St) :=
  bnd (f_X6_isMarked 1 S) (fun r2 S1 => if r2 = 0 then (bnd (f_X6_isMarked 2 S1) (fun r4 S3 => if r4 = 0 then (f_X6_longOf_b25 a1 1 S3)
      else (f_X6_longOf_b25 a1 2 S3)))
    else (f_X6_longOf_b25 a1 0 S1))
def f_X6_longOf (a1 : Int32) (S : St) : Option (Int32 × St) := f_X6_longOf_b0 a1 S
/-! StyleRows$Score.isMultiple(II)Z -/
def f_X9_isMultiple_b15 (w0 : Int32) (S : St) : Option (Int32 × St) :=
  chk (isB w0) (some (w0, S))
def f_X9_isMultiple_b14 (S : St) : Option (Int32 × St) :=
  f_X9_isMultiple_b15 0 S
def f_X9_isMultiple_b0 (a1 : Int32) (a2 : Int32) (S : St) : Option (Int32 × St) :=
  if a2 ≤ 0 then (f_X9_isMultiple_b14 S)
    else (chk (nzI a2) (if (a1 - a1 / a2 * a2) = 0 then (f_X9_isMultiple_b15 1 S)
      else (f_X9_isMultiple_b14 S)))
def f_X9_isMultiple (a1 : Int32) (a2 : Int32) (S : St) : Option (Int32 × St) := f_X9_isMultiple_b0 a1 a2 S
/-! StyleRows$Score.beginsBar(I)Z -/
def f_X9_beginsBar_b0 (a1 : Int32) (S : St) : Option (Int32 × St) :=
  bnd (f_X9_isMultiple a1 ((gI S 0) * (gI S 1)) S) (fun r2 S1 => chk (isB r2) (some (r2, S1)))
def f_X9_beginsBar (a1 : Int32) (S : St) : Option (Int32 × St) := f_X9_beginsBar_b0 a1 S
/-! StyleRows$Score.beginsBeat(I)Z -/
def f_X9_beginsBeat_b0 (a1 : Int32) (S : St) : Option (Int32 × St) :=
  bnd (f_X9_isMultiple a1 (gI S 1) S) (fun r2 S1 => chk (isB r2) (some (r2, S1)))
def f_X9_beginsBeat (a1 : Int32) (S : St) : Option (Int32 × St) := f_X9_beginsBeat_b0 a1 S
/-! StyleRows$Performer.loudOf(LStyleRows$Score;ILStyleRows$Rules;)I -/
def f_X6_loudOf_b80 (v4 : Int32) (S : St) : Option (Int32 × St) :=
  some (imax 1 (imin 127 v4), S)
def f_X6_loudOf_b32 (v2 : Int32) (v4 : Int32) (S : St) : Option (Int32 × St) :=
  bnd (f_X9_beginsBar v2 S) (fun r6 S5 => if r6 = 0 then (bnd (f_X9_beginsBeat v2 S5) (fun r8 S7 => if r8 = 0 then (f_X6_loudOf_b80 v4 S7)
      else (bnd (f_X8_numberFor (gI S7 13) 6 S7) (fun r10 S9 => vlet (v4 + r10) (fun x11 => f_X6_loudOf_b80 x11 S9)))))
    else (bnd (f_X8_numberFor (gI S5 13) 5 S5) (fun r13 S12 => vlet (v4 + r13) (fun x14 => f_X6_loudOf_b80 x14 S12))))
def f_X6_loudOf_b0 (a2 : Int32) (S : St) : Option (Int32 × St) :=
  bnd (f_X2_at a2 S) (fun r2 S1 => bnd (f_X6_isMarked 4 S1) (fun r4 S3 => if r4 = 0 then (f_X6_loudOf_b32 a2 r2 S3)
    else (bnd (f_X8_numberFor (gI S3 13) 4 S3) (fun r16 S15 => vlet (r2 + r16) (fun x17 => f_X6_loudOf_b32 a2 x17 S15)))))
def f_X6_loudOf (a2 : Int32) (S : St) : Option (Int32 × St) := f_X6_loudOf_b0 a2 S
/-! StyleRows$Performer.drawOf(IJ)I -/
def f_X6_drawOf_b0 (a1 : Int32) (a2 : Int64) (S : St) : Option (Int32 × St) :=
  vlet (a2 + (((Int32.toInt64 (gI S 12)) + 1) * (-7046029254386353131))) (fun y1 => vlet ((y1 ^^^ (lus y1 30)) * (-4658895280553007687)) (fun y2 => vlet (y2 ^^^ (lus y2 27)) (fun y3 => bnd (f_J9_floorMod_f86c9 (lus y3 33) ((2 * (Int32.toInt64 (imax 0 a1))) + 1) S) (fun r5 S4 => some ((Int64.toInt32 r5) - a1, S4)))))
def f_X6_drawOf (a1 : Int32) (a2 : Int64) (S : St) : Option (Int32 × St) := f_X6_drawOf_b0 a1 a2 S
/-! StyleRows$Performer.onOf(ILStyleRows$Rules;J)I -/
def f_X6_onOf_b34 (w0 : Int32) (S : St) : Option (Int32 × St) :=
  some (w0, S)
def f_X6_onOf_b0 (a1 : Int32) (a3 : Int64) (S : St) : Option (Int32 × St) :=
  bnd (f_X8_numberFor (gI S 13) 12 S) (fun r2 S1 => if r2 ≤ 0 then (f_X6_onOf_b34 a1 S1)
    else (bnd (f_X6_drawOf r2 a3 S1) (fun r4 S3 => f_X6_onOf_b34 (imax 0 (a1 + r4)) S3)))
def f_X6_onOf (a1 : Int32) (a3 : Int64) (S : St) : Option (Int32 × St) := f_X6_onOf_b0 a1 a3 S
/-! StyleRows$Events.add(IIIIIII)V -/
def f_X1_add_b0 (a1 : Int32) (a2 : Int32) (a3 : Int32) (a4 : Int32) (a5 : Int32) (a6 : Int32) (a7 : Int32) (S : St) : Option (Unit × St) :=
  if (gI S 19) < 400 then (chk (inb (gI S 19) 400) (vlet (wr S 32 (gI S 19) a1) (fun S1 => chk (inb (gI S1 19) 400) (vlet (wr S1 33 (gI S1 19) a2) (fun S2 => chk (inb (gI S2 19) 400) (vlet (wr S2 34 (gI S2 19) a3) (fun S3 => chk (inb (gI S3 19) 400) (vlet (wr S3 35 (gI S3 19) a4) (fun S4 => chk (inb (gI S4 19) 400) (vlet (wr S4 36 (gI S4 19) a5) (fun S5 => chk (inb (gI S5 19) 400) (vlet (wr S5 37 (gI S5 19) a6) (fun S6 => chk (inb (gI S6 19) 400) (vlet (wr S6 38 (gI S6 19) a7) (fun S7 => vlet (pI S7 19 ((gI S7 19) + 1)) (fun S8 => some ((), S8)))))))))))))))))
    else (vlet (pI S 20 1) (fun S9 => some ((), S9)))
def f_X1_add (a1 : Int32) (a2 : Int32) (a3 : Int32) (a4 : Int32) (a5 : Int32) (a6 : Int32) (a7 : Int32) (S : St) : Option (Unit × St) := f_X1_add_b0 a1 a2 a3 a4 a5 a6 a7 S
/-! StyleRows$Performer.addPart(IIII)V -/
def f_X6_addPart_b0 (a1 : Int32) (a2 : Int32) (a3 : Int32) (a4 : Int32) (S : St) : Option (Unit × St) :=
  bnd (f_X1_add (gI S 17) a4 a2 a3 (gI S 12) a1 (gI S 13) S) (fun _u1 S1 => vlet (pI S1 17 ((gI S1 17) + a4)) (fun S2 => vlet (pI S2 18 ((gI S2 18) - a4)) (fun S3 => some ((), S3))))
def f_X6_addPart (a1 : Int32) (a2 : Int32) (a3 : Int32) (a4 : Int32) (S : St) : Option (Unit × St) := f_X6_addPart_b0 a1 a2 a3 a4 S
/-! StyleRows$Performer.addTurn(LStyleRows$Rules;)Z -/
def f_X6_addTurn_b0 (S : St) : Option (Int32 × St) :=
  if 3 ≤ (gI S 18) then (bnd (f_X8_numberFor (gI S 13) 9 S) (fun r2 S1 => chk (nzI 3) (vlet (imin r2 ((gI S1 18) / 3)) (fun x3 => bnd (f_X6_addPart 3 (gI S1 14) (gI S1 16) x3 S1) (fun _u4 S4 => bnd (f_X6_addPart 3 ((gI S4 14) - 2) (gI S4 16) x3 S4) (fun _u5 S5 => bnd (f_X6_addPart 3 (gI S5 14) (gI S5 16) (gI S5 18) S5) (fun _u6 S6 => some (1, S6))))))))
    else (some (0, S))
def f_X6_addTurn (S : St) : Option (Int32 × St) := f_X6_addTurn_b0 S
/-! StyleRows$Performer.addTrill(LStyleRows$Rules;)Z -/
def f_X6_addTrill_b129 (rec85 : Int32 × Int32 × St → Option (Int32 × St)) (v2 : Int32) (v3 : Int32) (v6 : Int32) (w0 : Int32) (S : St) : Option (Int32 × St) :=
  rec85 (w0, v6 + 1, S)
def f_X6_addTrill_b111 (rec85 : Int32 × Int32 × St → Option (Int32 × St)) (v2 : Int32) (v3 : Int32) (v4 : Int32) (v6 : Int32) (w1 : Int32) (w2 : Int32) (S : St) : Option (Int32 × St) :=
  bnd (f_X6_addPart w1 w2 (gI S 16) v2 S) (fun _u8 S8 => if v4 = 0 then (f_X6_addTrill_b129 rec85 v2 v3 v6 1 S8)
    else (f_X6_addTrill_b129 rec85 v2 v3 v6 0 S8))
def f_X6_addTrill_b85 (rec85 : Int32 × Int32 × St → Option (Int32 × St)) (v2 : Int32) (v3 : Int32) (v4 : Int32) (v6 : Int32) (S : St) : Option (Int32 × St) :=
  if v3 ≤ v6 then (bnd (f_X6_addPart 2 (gI S 14) (gI S 16) (gI S 18) S) (fun _u7 S7 => some (1, S7)))
    else (if v4 = 0 then (f_X6_addTrill_b111 rec85 v2 v3 v4 v6 2 (gI S 14) S)
      else (f_X6_addTrill_b111 rec85 v2 v3 v4 v6 2 ((gI S 14) + 2) S))
def f_X6_addTrill_l85 (v2 : Int32) (v3 : Int32) (n : Nat) (s : Int32 × Int32 × St) : Option (Int32 × St) :=
  loopN (fun rec85 s => f_X6_addTrill_b85 rec85 v2 v3 s.1 s.2.1 s.2.2) n s
def f_X6_addTrill_b82 (v2 : Int32) (v3 : Int32) (v4 : Int32) (S : St) : Option (Int32 × St) :=
  f_X6_addTrill_l85 v2 v3 fuel (v4, 1, S)
def f_X6_addTrill_b72 (v2 : Int32) (v3 : Int32) (v4 : Int32) (w0 : Int32) (S : St) : Option (Int32 × St) :=
  if w0 = 0 then (f_X6_addTrill_b82 v2 v3 v4 S)
    else (f_X6_addTrill_b82 v2 (v3 + (-1)) v4 S)
def f_X6_addTrill_b62 (v2 : Int32) (v3 : Int32) (v4 : Int32) (w0 : Int32) (S : St) : Option (Int32 × St) :=
  if w0 = v4 then (f_X6_addTrill_b72 v2 v3 v4 1 S)
    else (f_X6_addTrill_b72 v2 v3 v4 0 S)
def f_X6_addTrill_b48 (v2 : Int32) (v3 : Int32) (w0 : Int32) (S : St) : Option (Int32 × St) :=
  chk (nzI 2) (if (v3 - v3 / 2 * 2) = 1 then (f_X6_addTrill_b62 v2 v3 w0 1 S)
    else (f_X6_addTrill_b62 v2 v3 w0 0 S))
def f_X6_addTrill_b0 (S : St) : Option (Int32 × St) :=
  bnd (f_X8_numberFor (gI S 13) 7 S) (fun r2 S1 => bnd (f_X11_quotient (Int32.toInt64 (gI S1 18)) (Int32.toInt64 r2) S1) (fun r4 S3 => if 2 ≤ r4 then (bnd (f_X8_numberFor (gI S3 13) 8 S3) (fun r6 S5 => if r6 = 1 then (f_X6_addTrill_b48 r2 r4 1 S5)
      else (f_X6_addTrill_b48 r2 r4 0 S5)))
    else (some (0, S3))))
def f_X6_addTrill (S : St) : Option (Int32 × St) := f_X6_addTrill_b0 S
/-! StyleRows$Performer.addLean(LStyleRows$Rules;)V -/
def f_X6_addLean_b48 (S : St) : Option (Unit × St) :=
  some ((), S)
def f_X6_addLean_b0 (S : St) : Option (Unit × St) :=
  bnd (f_X8_numberFor (gI S 13) 10 S) (fun r2 S1 => chk (nzI 2) (vlet (imin r2 ((gI S1 18) / 2)) (fun x3 => if x3 ≤ 0 then (f_X6_addLean_b48 S1)
    else (chk (nzI 4) (bnd (f_X6_addPart 1 ((gI S1 14) + 2) (imax 1 (((gI S1 16) * 3) / 4)) x3 S1) (fun _u4 S4 => f_X6_addLean_b48 S4))))))
def f_X6_addLean (S : St) : Option (Unit × St) := f_X6_addLean_b0 S
/-! StyleRows$Notes.isInChord(II)Z -/
def f_X4_isInChord_b57 (w0 : Int32) (S : St) : Option (Int32 × St) :=
  chk (isB w0) (some (w0, S))
def f_X4_isInChord_b56 (S : St) : Option (Int32 × St) :=
  f_X4_isInChord_b57 0 S
def f_X4_isInChord_b17 (v1 : Int32) (v2 : Int32) (w0 : Int32) (S : St) : Option (Int32 × St) :=
  if w0 = 0 then (f_X4_isInChord_b56 S)
    else (chk (inb v1 48) (chk (inb v2 48) (if (rd S 13 v1) = (rd S 13 v2) then (chk (inb v1 48) (chk (inb v2 48) (if (rd S 14 v1) = (rd S 14 v2) then (f_X4_isInChord_b57 1 S)
        else (f_X4_isInChord_b56 S))))
      else (f_X4_isInChord_b56 S))))
def f_X4_isInChord_b0 (a1 : Int32) (a2 : Int32) (S : St) : Option (Int32 × St) :=
  chk (inb a1 48) (if ((rd S 17 a1) &&& 64) = 0 then (f_X4_isInChord_b17 a1 a2 0 S)
    else (f_X4_isInChord_b17 a1 a2 1 S))
def f_X4_isInChord (a1 : Int32) (a2 : Int32) (S : St) : Option (Int32 × St) := f_X4_isInChord_b0 a1 a2 S
/-! StyleRows$Notes.isLower(II)Z -/
def f_X4_isLower_b40 (w0 : Int32) (S : St) : Option (Int32 × St) :=
  chk (isB w0) (some (w0, S))
def f_X4_isLower_b35 (S : St) : Option (Int32 × St) :=
  f_X4_isLower_b40 1 S
def f_X4_isLower_b39 (S : St) : Option (Int32 × St) :=
  f_X4_isLower_b40 0 S
def f_X4_isLower_b0 (a1 : Int32) (a2 : Int32) (S : St) : Option (Int32 × St) :=
  chk (inb a1 48) (chk (inb a2 48) (if (rd S 16 a1) < (rd S 16 a2) then (f_X4_isLower_b35 S)
    else (chk (inb a1 48) (chk (inb a2 48) (if (rd S 16 a1) = (rd S 16 a2) then (if a2 ≤ a1 then (f_X4_isLower_b39 S)
        else (f_X4_isLower_b35 S))
      else (f_X4_isLower_b39 S))))))
def f_X4_isLower (a1 : Int32) (a2 : Int32) (S : St) : Option (Int32 × St) := f_X4_isLower_b0 a1 a2 S
/-! StyleRows$Notes.rolledAhead(I)I -/
def f_X4_rolledAhead_b33 (rec4 : Int32 × Int32 × St → Option (Int32 × St)) (v1 : Int32) (v2 : Int32) (v3 : Int32) (S : St) : Option (Int32 × St) :=
  rec4 (v2, v3 + 1, S)
def f_X4_rolledAhead_b4 (rec4 : Int32 × Int32 × St → Option (Int32 × St)) (v1 : Int32) (v2 : Int32) (v3 : Int32) (S : St) : Option (Int32 × St) :=
  if (gI S 2) ≤ v3 then (some (v2, S))
    else (bnd (f_X4_isInChord v3 v1 S) (fun r2 S1 => if r2 = 0 then (f_X4_rolledAhead_b33 rec4 v1 v2 v3 S1)
      else (bnd (f_X4_isLower v3 v1 S1) (fun r4 S3 => if r4 = 0 then (f_X4_rolledAhead_b33 rec4 v1 v2 v3 S3)
        else (f_X4_rolledAhead_b33 rec4 v1 (v2 + 1) v3 S3)))))
def f_X4_rolledAhead_l4 (v1 : Int32) (n : Nat) (s : Int32 × Int32 × St) : Option (Int32 × St) :=
  loopN (fun rec4 s => f_X4_rolledAhead_b4 rec4 v1 s.1 s.2.1 s.2.2) n s
def f_X4_rolledAhead_b0 (a1 : Int32) (S : St) : Option (Int32 × St) :=
  f_X4_rolledAhead_l4 a1 fuel (0, 0, S)
def f_X4_rolledAhead (a1 : Int32) (S : St) : Option (Int32 × St) := f_X4_rolledAhead_b0 a1 S
/-! StyleRows$Performer.roll(LStyleRows$Notes;LStyleRows$Rules;)V -/
def f_X6_roll_b0 (S : St) : Option (Unit × St) :=
  bnd (f_X4_rolledAhead (gI S 12) S) (fun r2 S1 => bnd (f_X8_numberFor (gI S1 13) 11 S1) (fun r4 S3 => vlet (imin (r2 * r4) ((gI S3 18) - 1)) (fun x5 => vlet (pI S3 17 ((gI S3 17) + x5)) (fun S6 => vlet (pI S6 18 ((gI S6 18) - x5)) (fun S7 => some ((), S7))))))
def f_X6_roll (S : St) : Option (Unit × St) := f_X6_roll_b0 S
/-! StyleRows$Performer.addParts(LStyleRows$Notes;LStyleRows$Rules;)V -/
def f_X6_addParts_b65 (S : St) : Option (Unit × St) :=
  bnd (f_X6_addPart 0 (gI S 14) (gI S 16) (gI S 18) S) (fun _u9 S9 => some ((), S9))
def f_X6_addParts_b47 (S : St) : Option (Unit × St) :=
  bnd (f_X6_isMarked 16 S) (fun r8 S7 => if r8 = 0 then (f_X6_addParts_b65 S7)
    else (bnd (f_X6_addTurn S7) (fun r11 S10 => if r11 = 0 then (f_X6_addParts_b65 S10)
      else (some ((), S10)))))
def f_X6_addParts_b29 (S : St) : Option (Unit × St) :=
  bnd (f_X6_isMarked 8 S) (fun r6 S5 => if r6 = 0 then (f_X6_addParts_b47 S5)
    else (bnd (f_X6_addTrill S5) (fun r13 S12 => if r13 = 0 then (f_X6_addParts_b47 S12)
      else (some ((), S12)))))
def f_X6_addParts_b15 (S : St) : Option (Unit × St) :=
  bnd (f_X6_isMarked 32 S) (fun r4 S3 => if r4 = 0 then (f_X6_addParts_b29 S3)
    else (bnd (f_X6_addLean S3) (fun _u14 S14 => f_X6_addParts_b29 S14)))
def f_X6_addParts_b0 (S : St) : Option (Unit × St) :=
  bnd (f_X6_isMarked 64 S) (fun r2 S1 => if r2 = 0 then (f_X6_addParts_b15 S1)
    else (bnd (f_X6_roll S1) (fun _u15 S15 => f_X6_addParts_b15 S15)))
def f_X6_addParts (S : St) : Option (Unit × St) := f_X6_addParts_b0 S
/-! StyleRows$Performer.makeParts(LStyleRows$Score;LStyleRows$Rules;J)Z -/
def f_X6_makeParts_b131 (w0 : Int32) (S : St) : Option (Int32 × St) :=
  chk (isB w0) (some (w0, S))
def f_X6_makeParts_b116 (S : St) : Option (Int32 × St) :=
  if (gI S 20) = 0 then (f_X6_makeParts_b131 1 S)
    else (f_X6_makeParts_b131 0 S)
def f_X6_makeParts_b10 (rec10 : Int32 × St → Option (Int32 × St)) (v3 : Int64) (v5 : Int32) (S : St) : Option (Int32 × St) :=
  if (gI S 2) ≤ v5 then (f_X6_makeParts_b116 S)
    else (if (gI S 20) = 0 then (bnd (f_X6_takeNote v5 S) (fun _u2 S2 => chk (inb v5 48) (bnd (f_X6_longOf (rd S2 15 v5) S2) (fun r4 S3 => vlet (pI S3 18 r4) (fun S5 => chk (inb v5 48) (bnd (f_X6_loudOf (rd S5 14 v5) S5) (fun r7 S6 => vlet (pI S6 16 r7) (fun S8 => chk (inb v5 48) (bnd (f_X6_onOf (rd S8 14 v5) v3 S8) (fun r10 S9 => vlet (pI S9 17 r10) (fun S11 => bnd (f_X6_addParts S11) (fun _u12 S12 => rec10 (v5 + 1, S12)))))))))))))
      else (f_X6_makeParts_b116 S))
def f_X6_makeParts_l10 (v3 : Int64) (n : Nat) (s : Int32 × St) : Option (Int32 × St) :=
  loopN (fun rec10 s => f_X6_makeParts_b10 rec10 v3 s.1 s.2) n s
def f_X6_makeParts_b0 (a3 : Int64) (S : St) : Option (Int32 × St) :=
  bnd (f_X1_clear S) (fun _u1 S1 => f_X6_makeParts_l10 a3 fuel (0, S1))
def f_X6_makeParts (a3 : Int64) (S : St) : Option (Int32 × St) := f_X6_makeParts_b0 a3 S
/-! StyleRows$Events.bend(LStyleRows$Arcs;)V -/
def f_X1_bend_b2 (rec2 : Int32 × St → Option (Unit × St)) (v2 : Int32) (S : St) : Option (Unit × St) :=
  if (gI S 19) ≤ v2 then (some ((), S))
    else (chk (inb v2 400) (bnd (f_X0_bent (rd S 32 v2) S) (fun r2 S1 => chk (inb v2 400) (chk (inb v2 400) (bnd (f_X0_bent ((rd S1 32 v2) + (rd S1 33 v2)) S1) (fun r4 S3 => chk (inb v2 400) (vlet (wr S3 32 v2 r2) (fun S5 => chk (inb v2 400) (vlet (wr S5 33 v2 (imax 1 (r4 - r2))) (fun S6 => rec2 (v2 + 1, S6)))))))))))
def f_X1_bend_l2 (n : Nat) (s : Int32 × St) : Option (Unit × St) :=
  loopN (fun rec2 s => f_X1_bend_b2 rec2 s.1 s.2) n s
def f_X1_bend_b0 (S : St) : Option (Unit × St) :=
  f_X1_bend_l2 fuel (0, S)
def f_X1_bend (S : St) : Option (Unit × St) := f_X1_bend_b0 S
/-! StyleRows$Order.merge(III)V -/
def f_X5_merge_b82 (rec9 : Int32 × Int32 × Int32 × St → Option (Unit × St)) (v2 : Int32) (v3 : Int32) (v4 : Int32) (v5 : Int32) (v6 : Int32) (S : St) : Option (Unit × St) :=
  rec9 (v4, v5, v6 + 1, S)
def f_X5_merge_b65 (rec9 : Int32 × Int32 × Int32 × St → Option (Unit × St)) (v2 : Int32) (v3 : Int32) (v4 : Int32) (v5 : Int32) (v6 : Int32) (S : St) : Option (Unit × St) :=
  chk (isL (gR S 0)) (chk (inb v5 400) (chk (isL (gR S 1)) (chk (inb v6 400) (vlet (wrL S (gR S 1) v6 (rdL S (gR S 0) v5)) (fun S1 => f_X5_merge_b82 rec9 v2 v3 v4 (v5 + 1) v6 S1)))))
def f_X5_merge_b45 (rec9 : Int32 × Int32 × Int32 × St → Option (Unit × St)) (v2 : Int32) (v3 : Int32) (v4 : Int32) (v5 : Int32) (v6 : Int32) (S : St) : Option (Unit × St) :=
  chk (isL (gR S 0)) (chk (inb v4 400) (chk (isL (gR S 1)) (chk (inb v6 400) (vlet (wrL S (gR S 1) v6 (rdL S (gR S 0) v4)) (fun S2 => f_X5_merge_b82 rec9 v2 v3 (v4 + 1) v5 v6 S2)))))
def f_X5_merge_b9 (rec9 : Int32 × Int32 × Int32 × St → Option (Unit × St)) (v2 : Int32) (v3 : Int32) (v4 : Int32) (v5 : Int32) (v6 : Int32) (S : St) : Option (Unit × St) :=
  if v3 ≤ v6 then (some ((), S))
    else (if v2 ≤ v4 then (f_X5_merge_b65 rec9 v2 v3 v4 v5 v6 S)
      else (if v3 ≤ v5 then (f_X5_merge_b45 rec9 v2 v3 v4 v5 v6 S)
        else (chk (isL (gR S 0)) (chk (inb v4 400) (chk (isL (gR S 0)) (chk (inb v5 400) (if 0 ≤ (lg_cmp (rdL S (gR S 0) v4) (rdL S (gR S 0) v5)) then (f_X5_merge_b65 rec9 v2 v3 v4 v5 v6 S)
          else (f_X5_merge_b45 rec9 v2 v3 v4 v5 v6 S))))))))
def f_X5_merge_l9 (v2 : Int32) (v3 : Int32) (n : Nat) (s : Int32 × Int32 × Int32 × St) : Option (Unit × St) :=
  loopN (fun rec9 s => f_X5_merge_b9 rec9 v2 v3 s.1 s.2.1 s.2.2.1 s.2.2.2) n s
def f_X5_merge_b0 (a1 : Int32) (a2 : Int32) (a3 : Int32) (S : St) : Option (Unit × St) :=
  f_X5_merge_l9 a2 a3 fuel (a1, a2, a1, S)
def f_X5_merge (a1 : Int32) (a2 : Int32) (a3 : Int32) (S : St) : Option (Unit × St) := f_X5_merge_b0 a1 a2 a3 S
/-! StyleRows$Order.keyOf(LStyleRows$Events;I)J -/
def f_X5_keyOf_b0 (a2 : Int32) (S : St) : Option (Int64 × St) :=
  chk (inb a2 400) (vlet (Int32.toInt64 (rd S 32 a2)) (fun y1 => chk (inb a2 400) (vlet ((y1 * 4) + (Int32.toInt64 (rd S 38 a2))) (fun y2 => chk (inb a2 400) (vlet ((y2 * 128) + (Int32.toInt64 (rd S 34 a2))) (fun y3 => some ((y3 * 400) + (Int32.toInt64 a2), S)))))))
def f_X5_keyOf (a2 : Int32) (S : St) : Option (Int64 × St) := f_X5_keyOf_b0 a2 S
/-! StyleRows$Order.sort(LStyleRows$Events;)V -/
def f_X5_sort_b39 (rec31 : Int32 × St → Option (Unit × St)) (rec39 : Int32 × St → Option (Unit × St)) (v2 : Int32) (v3 : Int32) (v4 : Int32) (S : St) : Option (Unit × St) :=
  if v2 ≤ v4 then (vlet (gR S 1) (fun n2 => vlet (pR S 1 (gR S 0)) (fun S3 => vlet (pR S3 0 n2) (fun S4 => vlet (v3 * 2) (fun x5 => rec31 (x5, S4))))))
    else (bnd (f_X5_merge v4 (imin (v4 + v3) v2) (imin (v4 + (2 * v3)) v2) S) (fun _u6 S6 => vlet (v4 + (2 * v3)) (fun x7 => rec39 (x7, S6))))
def f_X5_sort_l39 (rec31 : Int32 × St → Option (Unit × St)) (v2 : Int32) (v3 : Int32) (n : Nat) (s : Int32 × St) : Option (Unit × St) :=
  loopN (fun rec39 s => f_X5_sort_b39 rec31 rec39 v2 v3 s.1 s.2) n s
def f_X5_sort_b31 (rec31 : Int32 × St → Option (Unit × St)) (v2 : Int32) (v3 : Int32) (S : St) : Option (Unit × St) :=
  if v2 ≤ v3 then (some ((), S))
    else (f_X5_sort_l39 rec31 v2 v3 fuel (0, S))
def f_X5_sort_l31 (v2 : Int32) (n : Nat) (s : Int32 × St) : Option (Unit × St) :=
  loopN (fun rec31 s => f_X5_sort_b31 rec31 v2 s.1 s.2) n s
def f_X5_sort_b7 (rec7 : Int32 × St → Option (Unit × St)) (v2 : Int32) (v3 : Int32) (S : St) : Option (Unit × St) :=
  if v2 ≤ v3 then (f_X5_sort_l31 v2 fuel (1, S))
    else (bnd (f_X5_keyOf v3 S) (fun r9 S8 => chk (isL (gR S 0)) (chk (inb v3 400) (vlet (wrL S8 (gR S 0) v3 r9) (fun S10 => rec7 (v3 + 1, S10))))))
def f_X5_sort_l7 (v2 : Int32) (n : Nat) (s : Int32 × St) : Option (Unit × St) :=
  loopN (fun rec7 s => f_X5_sort_b7 rec7 v2 s.1 s.2) n s
def f_X5_sort_b0 (S : St) : Option (Unit × St) :=
  vlet (gI S 19) (fun x1 => f_X5_sort_l7 x1 fuel (0, S))
def f_X5_sort (S : St) : Option (Unit × St) := f_X5_sort_b0 S
/-! StyleRows$Order.partAt(I)I -/
def f_X5_partAt_b0 (a1 : Int32) (S : St) : Option (Int32 × St) :=
  chk (isL (gR S 0)) (chk (inb a1 400) (bnd (f_J9_floorMod_1978a (rdL S (gR S 0) a1) 400 S) (fun r2 S1 => some (r2, S1))))
def f_X5_partAt (a1 : Int32) (S : St) : Option (Int32 × St) := f_X5_partAt_b0 a1 S
/-! StyleRows$Events.takeInOrder(LStyleRows$Events;LStyleRows$Order;)V -/
def f_X1_takeInOrder_b28 (rec10 : Int32 × St → Option (Unit × St)) (rec28 : Int32 × St → Option (Unit × St)) (v3 : Int32) (v4 : Int32) (v5 : Int32) (S : St) : Option (Unit × St) :=
  if 7 ≤ v5 then (rec10 (v3 + 1, S))
    else (chk (inb v5 7) (chk (inb v5 7) (chk (inb v4 400) (chk (inb v3 400) (vlet (wr S (42 + Int32.toNatClampNeg v5) v3 (rd S (32 + Int32.toNatClampNeg v5) v4)) (fun S6 => rec28 (v5 + 1, S6)))))))
def f_X1_takeInOrder_l28 (rec10 : Int32 × St → Option (Unit × St)) (v3 : Int32) (v4 : Int32) (n : Nat) (s : Int32 × St) : Option (Unit × St) :=
  loopN (fun rec28 s => f_X1_takeInOrder_b28 rec10 rec28 v3 v4 s.1 s.2) n s
def f_X1_takeInOrder_b10 (rec10 : Int32 × St → Option (Unit × St)) (v3 : Int32) (S : St) : Option (Unit × St) :=
  if (gI S 21) ≤ v3 then (some ((), S))
    else (bnd (f_X5_partAt v3 S) (fun r3 S2 => f_X1_takeInOrder_l28 rec10 v3 r3 fuel (0, S2)))
def f_X1_takeInOrder_l10 (n : Nat) (s : Int32 × St) : Option (Unit × St) :=
  loopN (fun rec10 s => f_X1_takeInOrder_b10 rec10 s.1 s.2) n s
def f_X1_takeInOrder_b0 (S : St) : Option (Unit × St) :=
  vlet (pI S 21 (gI S 19)) (fun S1 => f_X1_takeInOrder_l10 fuel (0, S1))
def f_X1_takeInOrder (S : St) : Option (Unit × St) := f_X1_takeInOrder_b0 S
/-! StyleRows$Events.endOf(I)I -/
def f_X1_endOf_b0 (a1 : Int32) (S : St) : Option (Int32 × St) :=
  chk (inb a1 400) (chk (inb a1 400) (some ((rd S 42 a1) + (rd S 43 a1), S)))
def f_X1_endOf (a1 : Int32) (S : St) : Option (Int32 × St) := f_X1_endOf_b0 a1 S
/-! StyleRows$Events.repeats(II)Z -/
def f_X1_repeats_b74 (w0 : Int32) (S : St) : Option (Int32 × St) :=
  chk (isB w0) (some (w0, S))
def f_X1_repeats_b73 (S : St) : Option (Int32 × St) :=
  f_X1_repeats_b74 0 S
def f_X1_repeats_b45 (v1 : Int32) (v2 : Int32) (w0 : Int32) (S : St) : Option (Int32 × St) :=
  if w0 = 0 then (f_X1_repeats_b73 S)
    else (chk (inb v1 400) (chk (inb v2 400) (if (rd S 42 v1) ≤ (rd S 42 v2) then (f_X1_repeats_b73 S)
      else (f_X1_repeats_b74 1 S))))
def f_X1_repeats_b44 (v1 : Int32) (v2 : Int32) (S : St) : Option (Int32 × St) :=
  f_X1_repeats_b45 v1 v2 0 S
def f_X1_repeats_b0 (a1 : Int32) (a2 : Int32) (S : St) : Option (Int32 × St) :=
  chk (inb a1 400) (chk (inb a2 400) (if (rd S 48 a1) = (rd S 48 a2) then (chk (inb a1 400) (chk (inb a2 400) (if (rd S 44 a1) = (rd S 44 a2) then (f_X1_repeats_b45 a1 a2 1 S)
      else (f_X1_repeats_b44 a1 a2 S))))
    else (f_X1_repeats_b44 a1 a2 S)))
def f_X1_repeats (a1 : Int32) (a2 : Int32) (S : St) : Option (Int32 × St) := f_X1_repeats_b0 a1 a2 S
/-! StyleRows$Events.endAtRepeat(I)V -/
def f_X1_endAtRepeat_b71 (S : St) : Option (Unit × St) :=
  some ((), S)
def f_X1_endAtRepeat_b10 (rec10 : Int32 × St → Option (Unit × St)) (v1 : Int32) (v2 : Int32) (v3 : Int32) (S : St) : Option (Unit × St) :=
  if (gI S 21) ≤ v3 then (f_X1_endAtRepeat_b71 S)
    else (chk (inb v3 400) (if v2 ≤ (rd S 42 v3) then (f_X1_endAtRepeat_b71 S)
      else (bnd (f_X1_repeats v3 v1 S) (fun r5 S4 => if r5 = 0 then (rec10 (v3 + 1, S4))
        else (chk (inb v3 400) (chk (inb v1 400) (chk (inb v1 400) (vlet (wr S4 43 v1 ((rd S4 42 v3) - (rd S4 42 v1))) (fun S6 => some ((), S6))))))))))
def f_X1_endAtRepeat_l10 (v1 : Int32) (v2 : Int32) (n : Nat) (s : Int32 × St) : Option (Unit × St) :=
  loopN (fun rec10 s => f_X1_endAtRepeat_b10 rec10 v1 v2 s.1 s.2) n s
def f_X1_endAtRepeat_b0 (a1 : Int32) (S : St) : Option (Unit × St) :=
  bnd (f_X1_endOf a1 S) (fun r2 S1 => vlet (a1 + 1) (fun x3 => f_X1_endAtRepeat_l10 a1 r2 fuel (x3, S1)))
def f_X1_endAtRepeat (a1 : Int32) (S : St) : Option (Unit × St) := f_X1_endAtRepeat_b0 a1 S
/-! StyleRows$Events.endAtRepeats()V -/
def f_X1_endAtRepeats_b2 (rec2 : Int32 × St → Option (Unit × St)) (v1 : Int32) (S : St) : Option (Unit × St) :=
  if (gI S 21) ≤ v1 then (some ((), S))
    else (bnd (f_X1_endAtRepeat v1 S) (fun _u1 S1 => rec2 (v1 + 1, S1)))
def f_X1_endAtRepeats_l2 (n : Nat) (s : Int32 × St) : Option (Unit × St) :=
  loopN (fun rec2 s => f_X1_endAtRepeats_b2 rec2 s.1 s.2) n s
def f_X1_endAtRepeats_b0 (S : St) : Option (Unit × St) :=
  f_X1_endAtRepeats_l2 fuel (0, S)
def f_X1_endAtRepeats (S : St) : Option (Unit × St) := f_X1_endAtRepeats_b0 S
/-! StyleRows.perform()I -/
def f_X11_perform_b0 (S : St) : Option (Int32 × St) :=
  bnd (f_X6_makeParts (gJ S 0) S) (fun r2 S1 => if r2 = 0 then (some ((-1004), S1))
    else (bnd (f_X1_bend S1) (fun _u3 S3 => bnd (f_X5_sort S3) (fun _u4 S4 => bnd (f_X1_takeInOrder S4) (fun _u5 S5 => bnd (f_X1_endAtRepeats S5) (fun _u6 S6 => some (gI S6 21, S6)))))))
def f_X11_perform (S : St) : Option (Int32 × St) := f_X11_perform_b0 S
/-! StyleRowsModel.cut(I)I -/
def f_X12_cut_b144 (rec29 : Int32 × Int32 × St → Option (Int32 × St)) (v1 : Int32) (v2 : Int32) (v4 : Int32) (w0 : Int32) (S : St) : Option (Int32 × St) :=
  rec29 (w0, v4 + 1, S)
def f_X12_cut_b143 (rec29 : Int32 × Int32 × St → Option (Int32 × St)) (v1 : Int32) (v2 : Int32) (v3 : Int32) (v4 : Int32) (S : St) : Option (Int32 × St) :=
  f_X12_cut_b144 rec29 v1 v2 v4 v3 S
def f_X12_cut_b105 (rec29 : Int32 × Int32 × St → Option (Int32 × St)) (v1 : Int32) (v2 : Int32) (v3 : Int32) (v4 : Int32) (w0 : Int32) (S : St) : Option (Int32 × St) :=
  chk (inb ((6 * v4) + 0) 2400) (vlet (rd S 65 ((6 * v4) + 0)) (fun x3 => if w0 = 0 then (f_X12_cut_b143 rec29 v1 v2 v3 v4 S)
    else (if x3 ≤ v2 then (f_X12_cut_b143 rec29 v1 v2 v3 v4 S)
      else (if v3 ≤ x3 then (f_X12_cut_b143 rec29 v1 v2 v3 v4 S)
        else (f_X12_cut_b144 rec29 v1 v2 v4 x3 S)))))
def f_X12_cut_b104 (rec29 : Int32 × Int32 × St → Option (Int32 × St)) (v1 : Int32) (v2 : Int32) (v3 : Int32) (v4 : Int32) (S : St) : Option (Int32 × St) :=
  f_X12_cut_b105 rec29 v1 v2 v3 v4 0 S
def f_X12_cut_b29 (rec29 : Int32 × Int32 × St → Option (Int32 × St)) (v1 : Int32) (v2 : Int32) (v3 : Int32) (v4 : Int32) (S : St) : Option (Int32 × St) :=
  if (gI S 33) ≤ v4 then (some (v3 - v2, S))
    else (chk (inb ((6 * v1) + 4) 2400) (chk (inb (rd S 65 ((6 * v1) + 4)) 48) (chk (inb ((6 * v4) + 4) 2400) (chk (inb (rd S 65 ((6 * v4) + 4)) 48) (if (rd S 49 (rd S 65 ((6 * v1) + 4))) = (rd S 49 (rd S 65 ((6 * v4) + 4))) then (chk (inb ((6 * v1) + 2) 2400) (chk (inb ((6 * v4) + 2) 2400) (if (rd S 65 ((6 * v1) + 2)) = (rd S 65 ((6 * v4) + 2)) then (f_X12_cut_b105 rec29 v1 v2 v3 v4 1 S)
        else (f_X12_cut_b104 rec29 v1 v2 v3 v4 S))))
      else (f_X12_cut_b104 rec29 v1 v2 v3 v4 S))))))
def f_X12_cut_l29 (v1 : Int32) (v2 : Int32) (n : Nat) (s : Int32 × Int32 × St) : Option (Int32 × St) :=
  loopN (fun rec29 s => f_X12_cut_b29 rec29 v1 v2 s.1 s.2.1 s.2.2) n s
def f_X12_cut_b0 (a1 : Int32) (S : St) : Option (Int32 × St) :=
  chk (inb ((6 * a1) + 0) 2400) (vlet (rd S 65 ((6 * a1) + 0)) (fun x1 => chk (inb ((6 * a1) + 1) 2400) (vlet (x1 + (rd S 65 ((6 * a1) + 1))) (fun x2 => f_X12_cut_l29 a1 x1 fuel (x2, 0, S)))))
def f_X12_cut (a1 : Int32) (S : St) : Option (Int32 × St) := f_X12_cut_b0 a1 S
/-! StyleRowsModel.isAhead(II)Z -/
def f_X12_isAhead_b144 (w0 : Int32) (S : St) : Option (Int32 × St) :=
  chk (isB w0) (some (w0, S))
def f_X12_isAhead_b118 (v1 : Int32) (v2 : Int32) (v3 : Int32) (S : St) : Option (Int32 × St) :=
  if v3 = 0 then (if v2 ≤ v1 then (f_X12_isAhead_b144 0 S)
      else (f_X12_isAhead_b144 1 S))
    else (if 0 ≤ v3 then (f_X12_isAhead_b144 0 S)
      else (f_X12_isAhead_b144 1 S))
def f_X12_isAhead_b90 (v1 : Int32) (v2 : Int32) (v3 : Int32) (S : St) : Option (Int32 × St) :=
  if v3 = 0 then (chk (inb ((6 * v1) + 4) 2400) (chk (inb ((6 * v2) + 4) 2400) (vlet ((rd S 65 ((6 * v1) + 4)) - (rd S 65 ((6 * v2) + 4))) (fun x2 => f_X12_isAhead_b118 v1 v2 x2 S))))
    else (f_X12_isAhead_b118 v1 v2 v3 S)
def f_X12_isAhead_b62 (v1 : Int32) (v2 : Int32) (v3 : Int32) (S : St) : Option (Int32 × St) :=
  if v3 = 0 then (chk (inb ((6 * v1) + 2) 2400) (chk (inb ((6 * v2) + 2) 2400) (vlet ((rd S 65 ((6 * v1) + 2)) - (rd S 65 ((6 * v2) + 2))) (fun x3 => f_X12_isAhead_b90 v1 v2 x3 S))))
    else (f_X12_isAhead_b90 v1 v2 v3 S)
def f_X12_isAhead_b0 (a1 : Int32) (a2 : Int32) (S : St) : Option (Int32 × St) :=
  chk (inb ((6 * a1) + 0) 2400) (chk (inb ((6 * a2) + 0) 2400) (vlet ((rd S 65 ((6 * a1) + 0)) - (rd S 65 ((6 * a2) + 0))) (fun x1 => if x1 = 0 then (chk (inb ((6 * a1) + 4) 2400) (chk (inb (rd S 65 ((6 * a1) + 4)) 48) (chk (inb ((6 * a2) + 4) 2400) (chk (inb (rd S 65 ((6 * a2) + 4)) 48) (vlet ((rd S 49 (rd S 65 ((6 * a1) + 4))) - (rd S 49 (rd S 65 ((6 * a2) + 4)))) (fun x4 => f_X12_isAhead_b62 a1 a2 x4 S))))))
    else (f_X12_isAhead_b62 a1 a2 x1 S))))
def f_X12_isAhead (a1 : Int32) (a2 : Int32) (S : St) : Option (Int32 × St) := f_X12_isAhead_b0 a1 a2 S
/-! StyleRowsModel.onOf(I)I -/
def f_X12_onOf_b92 (w0 : Int32) (S : St) : Option (Int32 × St) :=
  some (w0, S)
def f_X12_onOf_b0 (a1 : Int32) (S : St) : Option (Int32 × St) :=
  chk (inb a1 48) (bnd (f_X12_number (rd S 49 a1) 12 S) (fun r2 S1 => if r2 = 0 then (chk (inb a1 48) (some (rd S1 50 a1, S1)))
    else (vlet ((gJ S1 1) + (((Int32.toInt64 a1) + 1) * (-7046029254386353131))) (fun y3 => vlet ((y3 ^^^ (lus y3 30)) * (-4658895280553007687)) (fun y4 => vlet (y4 ^^^ (lus y4 27)) (fun y5 => chk (inb a1 48) (chk (nzL ((2 * (Int32.toInt64 r2)) + 1)) (vlet (((rd S1 50 a1) + (Int64.toInt32 ((lus y5 33) - (lus y5 33) / ((2 * (Int32.toInt64 r2)) + 1) * ((2 * (Int32.toInt64 r2)) + 1)))) - r2) (fun x6 => if 0 ≤ x6 then (f_X12_onOf_b92 x6 S1)
      else (f_X12_onOf_b92 0 S1))))))))))
def f_X12_onOf (a1 : Int32) (S : St) : Option (Int32 × St) := f_X12_onOf_b0 a1 S
/-! StyleRowsModel.has(II)Z -/
def f_X12_has_b16 (w0 : Int32) (S : St) : Option (Int32 × St) :=
  chk (isB w0) (some (w0, S))
def f_X12_has_b0 (a1 : Int32) (a2 : Int32) (S : St) : Option (Int32 × St) :=
  chk (inb a1 48) (if ((rd S 53 a1) &&& a2) = 0 then (f_X12_has_b16 0 S)
    else (f_X12_has_b16 1 S))
def f_X12_has (a1 : Int32) (a2 : Int32) (S : St) : Option (Int32 × St) := f_X12_has_b0 a1 a2 S
/-! StyleRowsModel.lesser(II)I -/
def f_X12_lesser_b10 (w0 : Int32) (S : St) : Option (Int32 × St) :=
  some (w0, S)
def f_X12_lesser_b0 (a1 : Int32) (a2 : Int32) (S : St) : Option (Int32 × St) :=
  if a2 ≤ a1 then (f_X12_lesser_b10 a2 S)
    else (f_X12_lesser_b10 a1 S)
def f_X12_lesser (a1 : Int32) (a2 : Int32) (S : St) : Option (Int32 × St) := f_X12_lesser_b0 a1 a2 S
/-! StyleRowsModel.longOf(I)I -/
def f_X12_longOf_b84 (w0 : Int32) (S : St) : Option (Int32 × St) :=
  some (w0, S)
def f_X12_longOf_b34 (v1 : Int32) (w1 : Int32) (w2 : Int32) (S : St) : Option (Int32 × St) :=
  bnd (f_X12_number w1 w2 S) (fun r6 S5 => chk (inb v1 48) (chk (nzI 100) (vlet (((rd S5 51 v1) * r6) / 100) (fun x7 => chk (inb v1 48) (bnd (f_X12_number (rd S5 49 v1) 3 S5) (fun r9 S8 => chk (inb v1 48) (bnd (f_X12_lesser r9 (rd S8 51 v1) S8) (fun r11 S10 => if r11 ≤ x7 then (f_X12_longOf_b84 x7 S10)
    else (f_X12_longOf_b84 r11 S10)))))))))
def f_X12_longOf_b0 (a1 : Int32) (S : St) : Option (Int32 × St) :=
  chk (inb a1 48) (bnd (f_X12_has a1 1 S) (fun r2 S1 => if r2 = 0 then (bnd (f_X12_has a1 2 S1) (fun r4 S3 => if r4 = 0 then (f_X12_longOf_b34 a1 (rd S 49 a1) 1 S3)
      else (f_X12_longOf_b34 a1 (rd S 49 a1) 2 S3)))
    else (f_X12_longOf_b34 a1 (rd S 49 a1) 0 S1)))
def f_X12_longOf (a1 : Int32) (S : St) : Option (Int32 × St) := f_X12_longOf_b0 a1 S
/-! StyleRowsModel.loudOf(I)I -/
def f_X12_loudOf_b119 (w0 : Int32) (S : St) : Option (Int32 × St) :=
  some (w0, S)
def f_X12_loudOf_b102 (w0 : Int32) (w1 : Int32) (S : St) : Option (Int32 × St) :=
  vlet (w0 + w1) (fun x6 => if 1 ≤ x6 then (bnd (f_X12_lesser x6 127 S) (fun r8 S7 => f_X12_loudOf_b119 r8 S7))
    else (f_X12_loudOf_b119 1 S))
def f_X12_loudOf_b36 (v1 : Int32) (w0 : Int32) (w1 : Int32) (S : St) : Option (Int32 × St) :=
  vlet (w0 + w1) (fun x5 => chk (inb v1 48) (chk (nzI ((gI S 25) * (gI S 26))) (if ((rd S 50 v1) - (rd S 50 v1) / ((gI S 25) * (gI S 26)) * ((gI S 25) * (gI S 26))) = 0 then (chk (inb v1 48) (bnd (f_X12_number (rd S 49 v1) 5 S) (fun r12 S11 => f_X12_loudOf_b102 x5 r12 S11)))
    else (chk (inb v1 48) (chk (nzI (gI S 26)) (if ((rd S 50 v1) - (rd S 50 v1) / (gI S 26) * (gI S 26)) = 0 then (chk (inb v1 48) (bnd (f_X12_number (rd S 49 v1) 6 S) (fun r10 S9 => f_X12_loudOf_b102 x5 r10 S9)))
      else (f_X12_loudOf_b102 x5 0 S)))))))
def f_X12_loudOf_b0 (a1 : Int32) (S : St) : Option (Int32 × St) :=
  chk (inb a1 48) (bnd (f_X12_highAt (rd S 50 a1) S) (fun r2 S1 => bnd (f_X12_has a1 4 S1) (fun r4 S3 => if r4 = 0 then (f_X12_loudOf_b36 a1 r2 0 S3)
    else (chk (inb a1 48) (bnd (f_X12_number (rd S3 49 a1) 4 S3) (fun r14 S13 => f_X12_loudOf_b36 a1 r2 r14 S13))))))
def f_X12_loudOf (a1 : Int32) (S : St) : Option (Int32 × St) := f_X12_loudOf_b0 a1 S
/-! StyleRowsModel.sounds(IIIII)V -/
def f_X12_sounds_b146 (v5 : Int32) (S : St) : Option (Unit × St) :=
  vlet (pI S 33 ((gI S 33) + 1)) (fun S1 => vlet (pI S1 35 ((gI S1 35) + v5)) (fun S2 => vlet (pI S2 36 ((gI S2 36) - v5)) (fun S3 => some ((), S3))))
def f_X12_sounds_b77 (v1 : Int32) (v2 : Int32) (v3 : Int32) (v4 : Int32) (v5 : Int32) (w1 : Int32) (w2 : Int32) (S : St) : Option (Unit × St) :=
  chk (inb w1 2400) (vlet (wr S 65 w1 w2) (fun S10 => chk (inb v1 48) (chk (inb ((6 * (gI S10 33)) + 2) 2400) (vlet (wr S10 65 ((6 * (gI S10 33)) + 2) ((rd S10 52 v1) + v3)) (fun S11 => chk (inb ((6 * (gI S11 33)) + 3) 2400) (vlet (wr S11 65 ((6 * (gI S11 33)) + 3) v4) (fun S12 => chk (inb ((6 * (gI S12 33)) + 4) 2400) (vlet (wr S12 65 ((6 * (gI S12 33)) + 4) v1) (fun S13 => chk (inb ((6 * (gI S13 33)) + 5) 2400) (vlet (wr S13 65 ((6 * (gI S13 33)) + 5) v2) (fun S14 => f_X12_sounds_b146 v5 S14)))))))))))
def f_X12_sounds_b0 (a1 : Int32) (a2 : Int32) (a3 : Int32) (a4 : Int32) (a5 : Int32) (S : St) : Option (Unit × St) :=
  if 400 ≤ (gI S 33) then (f_X12_sounds_b146 a5 S)
    else (bnd (f_X12_time (gI S 35) S) (fun r5 S4 => bnd (f_X12_time ((gI S4 35) + a5) S4) (fun r7 S6 => vlet (r7 - r5) (fun x8 => chk (inb ((6 * (gI S6 33)) + 0) 2400) (vlet (wr S6 65 ((6 * (gI S6 33)) + 0) r5) (fun S9 => if 1 ≤ x8 then (f_X12_sounds_b77 a1 a2 a3 a4 a5 ((6 * (gI S9 33)) + 1) x8 S9)
      else (f_X12_sounds_b77 a1 a2 a3 a4 a5 ((6 * (gI S9 33)) + 1) 1 S9)))))))
def f_X12_sounds (a1 : Int32) (a2 : Int32) (a3 : Int32) (a4 : Int32) (a5 : Int32) (S : St) : Option (Unit × St) := f_X12_sounds_b0 a1 a2 a3 a4 a5 S
/-! StyleRowsModel.trill(III)V -/
def f_X12_trill_b85 (rec38 : Int32 × St → Option (Unit × St)) (v1 : Int32) (v2 : Int32) (v4 : Int32) (v5 : Int32) (v6 : Int32) (w1 : Int32) (w2 : Int32) (w3 : Int32) (w4 : Int32) (w5 : Int32) (S : St) : Option (Unit × St) :=
  bnd (f_X12_sounds w1 w2 w3 w4 w5 S) (fun _u3 S3 => rec38 (v6 + 1, S3))
def f_X12_trill_b64 (rec38 : Int32 × St → Option (Unit × St)) (v1 : Int32) (v2 : Int32) (v4 : Int32) (v5 : Int32) (v6 : Int32) (w1 : Int32) (w2 : Int32) (w3 : Int32) (S : St) : Option (Unit × St) :=
  if v6 = (v5 - 1) then (f_X12_trill_b85 rec38 v1 v2 v4 v5 v6 w1 w2 w3 (gI S 37) (gI S 36) S)
    else (f_X12_trill_b85 rec38 v1 v2 v4 v5 v6 w1 w2 w3 (gI S 37) v2 S)
def f_X12_trill_b38 (rec38 : Int32 × St → Option (Unit × St)) (v1 : Int32) (v2 : Int32) (v4 : Int32) (v5 : Int32) (v6 : Int32) (S : St) : Option (Unit × St) :=
  if v5 ≤ v6 then (some ((), S))
    else (chk (nzI 2) (if ((v6 + v4) - (v6 + v4) / 2 * 2) = 1 then (f_X12_trill_b64 rec38 v1 v2 v4 v5 v6 v1 2 2 S)
      else (f_X12_trill_b64 rec38 v1 v2 v4 v5 v6 v1 2 0 S)))
def f_X12_trill_l38 (v1 : Int32) (v2 : Int32) (v4 : Int32) (v5 : Int32) (n : Nat) (s : Int32 × St) : Option (Unit × St) :=
  loopN (fun rec38 s => f_X12_trill_b38 rec38 v1 v2 v4 v5 s.1 s.2) n s
def f_X12_trill_b33 (v1 : Int32) (v2 : Int32) (v4 : Int32) (w0 : Int32) (S : St) : Option (Unit × St) :=
  f_X12_trill_l38 v1 v2 v4 w0 fuel (0, S)
def f_X12_trill_b0 (a1 : Int32) (a2 : Int32) (a3 : Int32) (S : St) : Option (Unit × St) :=
  chk (inb a1 48) (bnd (f_X12_number (rd S 49 a1) 8 S) (fun r2 S1 => chk (nzI 2) (if (((a3 - 1) + r2) - ((a3 - 1) + r2) / 2 * 2) = 1 then (f_X12_trill_b33 a1 a2 r2 (a3 - 1) S1)
    else (f_X12_trill_b33 a1 a2 r2 a3 S1))))
def f_X12_trill (a1 : Int32) (a2 : Int32) (a3 : Int32) (S : St) : Option (Unit × St) := f_X12_trill_b0 a1 a2 a3 S
/-! StyleRowsModel.rolledAhead(I)I -/
def f_X12_rolledAhead_b110 (rec4 : Int32 × Int32 × St → Option (Int32 × St)) (v1 : Int32) (v3 : Int32) (w0 : Int32) (w1 : Int32) (S : St) : Option (Int32 × St) :=
  vlet (w0 + w1) (fun x1 => rec4 (x1, v3 + 1, S))
def f_X12_rolledAhead_b109 (rec4 : Int32 × Int32 × St → Option (Int32 × St)) (v1 : Int32) (v3 : Int32) (w0 : Int32) (S : St) : Option (Int32 × St) :=
  f_X12_rolledAhead_b110 rec4 v1 v3 w0 0 S
def f_X12_rolledAhead_b105 (rec4 : Int32 × Int32 × St → Option (Int32 × St)) (v1 : Int32) (v3 : Int32) (w0 : Int32) (S : St) : Option (Int32 × St) :=
  f_X12_rolledAhead_b110 rec4 v1 v3 w0 1 S
def f_X12_rolledAhead_b62 (rec4 : Int32 × Int32 × St → Option (Int32 × St)) (v1 : Int32) (v2 : Int32) (v3 : Int32) (w0 : Int32) (S : St) : Option (Int32 × St) :=
  if w0 = 0 then (f_X12_rolledAhead_b109 rec4 v1 v3 v2 S)
    else (chk (inb v3 48) (chk (inb v1 48) (if (rd S 52 v3) < (rd S 52 v1) then (f_X12_rolledAhead_b105 rec4 v1 v3 v2 S)
      else (chk (inb v3 48) (chk (inb v1 48) (if (rd S 52 v3) = (rd S 52 v1) then (if v1 ≤ v3 then (f_X12_rolledAhead_b109 rec4 v1 v3 v2 S)
          else (f_X12_rolledAhead_b105 rec4 v1 v3 v2 S))
        else (f_X12_rolledAhead_b109 rec4 v1 v3 v2 S)))))))
def f_X12_rolledAhead_b61 (rec4 : Int32 × Int32 × St → Option (Int32 × St)) (v1 : Int32) (v2 : Int32) (v3 : Int32) (S : St) : Option (Int32 × St) :=
  f_X12_rolledAhead_b62 rec4 v1 v2 v3 0 S
def f_X12_rolledAhead_b4 (rec4 : Int32 × Int32 × St → Option (Int32 × St)) (v1 : Int32) (v2 : Int32) (v3 : Int32) (S : St) : Option (Int32 × St) :=
  if (gI S 23) ≤ v3 then (some (v2, S))
    else (if v3 = v1 then (f_X12_rolledAhead_b61 rec4 v1 v2 v3 S)
      else (bnd (f_X12_has v3 64 S) (fun r3 S2 => if r3 = 0 then (f_X12_rolledAhead_b61 rec4 v1 v2 v3 S2)
        else (chk (inb v3 48) (chk (inb v1 48) (if (rd S2 49 v3) = (rd S2 49 v1) then (chk (inb v3 48) (chk (inb v1 48) (if (rd S2 50 v3) = (rd S2 50 v1) then (f_X12_rolledAhead_b62 rec4 v1 v2 v3 1 S2)
            else (f_X12_rolledAhead_b61 rec4 v1 v2 v3 S2))))
          else (f_X12_rolledAhead_b61 rec4 v1 v2 v3 S2)))))))
def f_X12_rolledAhead_l4 (v1 : Int32) (n : Nat) (s : Int32 × Int32 × St) : Option (Int32 × St) :=
  loopN (fun rec4 s => f_X12_rolledAhead_b4 rec4 v1 s.1 s.2.1 s.2.2) n s
def f_X12_rolledAhead_b0 (a1 : Int32) (S : St) : Option (Int32 × St) :=
  f_X12_rolledAhead_l4 a1 fuel (0, 0, S)
def f_X12_rolledAhead (a1 : Int32) (S : St) : Option (Int32 × St) := f_X12_rolledAhead_b0 a1 S
/-! StyleRowsModel.performNote(I)V -/
def f_X12_performNote_b299 (S : St) : Option (Unit × St) :=
  some ((), S)
def f_X12_performNote_b284 (v1 : Int32) (S : St) : Option (Unit × St) :=
  bnd (f_X12_sounds v1 0 0 (gI S 37) (gI S 36) S) (fun _u20 S20 => f_X12_performNote_b299 S20)
def f_X12_performNote_b201 (v1 : Int32) (S : St) : Option (Unit × St) :=
  bnd (f_X12_has v1 16 S) (fun r19 S18 => if r19 = 0 then (f_X12_performNote_b284 v1 S18)
    else (if (gI S18 36) < 3 then (f_X12_performNote_b284 v1 S18)
      else (chk (inb v1 48) (bnd (f_X12_number (rd S18 49 v1) 9 S18) (fun r22 S21 => chk (nzI 3) (bnd (f_X12_lesser r22 ((gI S21 36) / 3) S21) (fun r24 S23 => bnd (f_X12_sounds v1 3 0 (gI S23 37) r24 S23) (fun _u25 S25 => bnd (f_X12_sounds v1 3 (-2) (gI S25 37) r24 S25) (fun _u26 S26 => bnd (f_X12_sounds v1 3 0 (gI S26 37) (gI S26 36) S26) (fun _u27 S27 => f_X12_performNote_b299 S27))))))))))
def f_X12_performNote_b153 (v1 : Int32) (S : St) : Option (Unit × St) :=
  chk (inb v1 48) (bnd (f_X12_number (rd S 49 v1) 7 S) (fun r15 S14 => bnd (f_X12_has v1 8 S14) (fun r17 S16 => if r17 = 0 then (f_X12_performNote_b201 v1 S16)
    else (chk (nzI r15) (if ((gI S16 36) / r15) < 2 then (f_X12_performNote_b201 v1 S16)
      else (chk (nzI r15) (bnd (f_X12_trill v1 r15 ((gI S16 36) / r15) S16) (fun _u28 S28 => f_X12_performNote_b299 S28))))))))
def f_X12_performNote_b149 (v1 : Int32) (v2 : Int32) (w1 : Int32) (w2 : Int32) (w3 : Int32) (w4 : Int32) (S : St) : Option (Unit × St) :=
  bnd (f_X12_sounds w1 w2 w3 w4 v2 S) (fun _u33 S33 => f_X12_performNote_b153 v1 S33)
def f_X12_performNote_b85 (v1 : Int32) (S : St) : Option (Unit × St) :=
  bnd (f_X12_has v1 32 S) (fun r13 S12 => if r13 = 0 then (f_X12_performNote_b153 v1 S12)
    else (chk (inb v1 48) (bnd (f_X12_number (rd S12 49 v1) 10 S12) (fun r30 S29 => chk (nzI 2) (bnd (f_X12_lesser r30 ((gI S29 36) / 2) S29) (fun r32 S31 => if r32 ≤ 0 then (f_X12_performNote_b153 v1 S31)
      else (chk (nzI 4) (if 1 ≤ (((gI S31 37) * 3) / 4) then (chk (nzI 4) (f_X12_performNote_b149 v1 r32 v1 1 2 (((gI S31 37) * 3) / 4) S31))
        else (f_X12_performNote_b149 v1 r32 v1 1 2 1 S31)))))))))
def f_X12_performNote_b0 (a1 : Int32) (S : St) : Option (Unit × St) :=
  bnd (f_X12_onOf a1 S) (fun r2 S1 => vlet (pI S1 35 r2) (fun S3 => bnd (f_X12_longOf a1 S3) (fun r5 S4 => vlet (pI S4 36 r5) (fun S6 => bnd (f_X12_loudOf a1 S6) (fun r8 S7 => vlet (pI S7 37 r8) (fun S9 => bnd (f_X12_has a1 64 S9) (fun r11 S10 => if r11 = 0 then (f_X12_performNote_b85 a1 S10)
    else (bnd (f_X12_rolledAhead a1 S10) (fun r35 S34 => chk (inb a1 48) (bnd (f_X12_number (rd S34 49 a1) 11 S34) (fun r37 S36 => bnd (f_X12_lesser (r35 * r37) ((gI S36 36) - 1) S36) (fun r39 S38 => vlet (pI S38 35 ((gI S38 35) + r39)) (fun S40 => vlet (pI S40 36 ((gI S40 36) - r39)) (fun S41 => f_X12_performNote_b85 a1 S41))))))))))))))
def f_X12_performNote (a1 : Int32) (S : St) : Option (Unit × St) := f_X12_performNote_b0 a1 S
/-! StyleRowsModel.perform()I -/
def f_X12_perform_b95 (rec50 : Int32 × St → Option (Int32 × St)) (rec95 : Int32 × St → Option (Int32 × St)) (v1 : Int32) (v2 : Int32) (v3 : Int32) (S : St) : Option (Int32 × St) :=
  if 6 ≤ v3 then (bnd (f_X12_cut v1 S) (fun r4 S3 => chk (inb ((6 * v2) + 1) 2400) (vlet (wr S3 66 ((6 * v2) + 1) r4) (fun S5 => rec50 (v1 + 1, S5)))))
    else (chk (inb ((6 * v1) + v3) 2400) (chk (inb ((6 * v2) + v3) 2400) (vlet (wr S 66 ((6 * v2) + v3) (rd S 65 ((6 * v1) + v3))) (fun S6 => rec95 (v3 + 1, S6)))))
def f_X12_perform_l95 (rec50 : Int32 × St → Option (Int32 × St)) (v1 : Int32) (v2 : Int32) (n : Nat) (s : Int32 × St) : Option (Int32 × St) :=
  loopN (fun rec95 s => f_X12_perform_b95 rec50 rec95 v1 v2 s.1 s.2) n s
def f_X12_perform_b85 (rec50 : Int32 × St → Option (Int32 × St)) (rec62 : Int32 × Int32 × St → Option (Int32 × St)) (v1 : Int32) (v3 : Int32) (w0 : Int32) (w1 : Int32) (S : St) : Option (Int32 × St) :=
  vlet (w0 + w1) (fun x9 => rec62 (x9, v3 + 1, S))
def f_X12_perform_b62 (rec50 : Int32 × St → Option (Int32 × St)) (rec62 : Int32 × Int32 × St → Option (Int32 × St)) (v1 : Int32) (v2 : Int32) (v3 : Int32) (S : St) : Option (Int32 × St) :=
  if (gI S 33) ≤ v3 then (f_X12_perform_l95 rec50 v1 v2 fuel (0, S))
    else (bnd (f_X12_isAhead v3 v1 S) (fun r8 S7 => if r8 = 0 then (f_X12_perform_b85 rec50 rec62 v1 v3 v2 0 S7)
      else (f_X12_perform_b85 rec50 rec62 v1 v3 v2 1 S7)))
def f_X12_perform_l62 (rec50 : Int32 × St → Option (Int32 × St)) (v1 : Int32) (n : Nat) (s : Int32 × Int32 × St) : Option (Int32 × St) :=
  loopN (fun rec62 s => f_X12_perform_b62 rec50 rec62 v1 s.1 s.2.1 s.2.2) n s
def f_X12_perform_b50 (rec50 : Int32 × St → Option (Int32 × St)) (v1 : Int32) (S : St) : Option (Int32 × St) :=
  if (gI S 33) ≤ v1 then (some (gI S 34, S))
    else (f_X12_perform_l62 rec50 v1 fuel (0, 0, S))
def f_X12_perform_l50 (n : Nat) (s : Int32 × St) : Option (Int32 × St) :=
  loopN (fun rec50 s => f_X12_perform_b50 rec50 s.1 s.2) n s
def f_X12_perform_b7 (rec7 : Int32 × St → Option (Int32 × St)) (v1 : Int32) (S : St) : Option (Int32 × St) :=
  if (gI S 23) ≤ v1 then (if (gI S 33) ≤ 400 then (vlet (pI S 34 (gI S 33)) (fun S2 => f_X12_perform_l50 fuel (0, S2)))
      else (some ((-1004), S)))
    else (bnd (f_X12_performNote v1 S) (fun _u10 S10 => rec7 (v1 + 1, S10)))
def f_X12_perform_l7 (n : Nat) (s : Int32 × St) : Option (Int32 × St) :=
  loopN (fun rec7 s => f_X12_perform_b7 rec7 s.1 s.2) n s
def f_X12_perform_b0 (S : St) : Option (Int32 × St) :=
  vlet (pI S 33 0) (fun S1 => f_X12_perform_l7 fuel (0, S1))
def f_X12_perform (S : St) : Option (Int32 × St) := f_X12_perform_b0 S
/-! StyleRows$Events.has(I)Z -/
def f_X1_has_b0 (a1 : Int32) (S : St) : Option (Int32 × St) :=
  bnd (f_X11_isWithin a1 0 ((gI S 21) - 1) S) (fun r2 S1 => chk (isB r2) (some (r2, S1)))
def f_X1_has (a1 : Int32) (S : St) : Option (Int32 × St) := f_X1_has_b0 a1 S
/-! StyleRows.event(II)I -/
def f_X11_event_b38 (w0 : Int32) (S : St) : Option (Int32 × St) :=
  some (w0, S)
def f_X11_event_b35 (S : St) : Option (Int32 × St) :=
  f_X11_event_b38 (-1001) S
def f_X11_event_b0 (a1 : Int32) (a2 : Int32) (S : St) : Option (Int32 × St) :=
  bnd (f_X1_has a1 S) (fun r2 S1 => if r2 = 0 then (f_X11_event_b35 S1)
    else (bnd (f_X11_isWithin a2 0 6 S1) (fun r4 S3 => if r4 = 0 then (f_X11_event_b35 S3)
      else (chk (inb a2 7) (chk (inb a1 400) (f_X11_event_b38 (rd S3 (42 + Int32.toNatClampNeg a2) a1) S3))))))
def f_X11_event (a1 : Int32) (a2 : Int32) (S : St) : Option (Int32 × St) := f_X11_event_b0 a1 a2 S
/-! StyleRowsModel.event(II)I -/
def f_X12_event_b28 (S : St) : Option (Int32 × St) :=
  some ((-1001), S)
def f_X12_event_b68 (w0 : Int32) (S : St) : Option (Int32 × St) :=
  some (w0, S)
def f_X12_event_b0 (a1 : Int32) (a2 : Int32) (S : St) : Option (Int32 × St) :=
  bnd (f_X12_in (Int32.toInt64 a1) 0 (Int32.toInt64 ((gI S 34) - 1)) S) (fun r2 S1 => if r2 = 0 then (f_X12_event_b28 S1)
    else (bnd (f_X12_in (Int32.toInt64 a2) 0 6 S1) (fun r4 S3 => if r4 = 0 then (f_X12_event_b28 S3)
      else (if a2 = 6 then (chk (inb ((6 * a1) + 4) 2400) (chk (inb (rd S3 66 ((6 * a1) + 4)) 48) (f_X12_event_b68 (rd S3 49 (rd S3 66 ((6 * a1) + 4))) S3)))
        else (chk (inb ((6 * a1) + a2) 2400) (f_X12_event_b68 (rd S3 66 ((6 * a1) + a2)) S3))))))
def f_X12_event (a1 : Int32) (a2 : Int32) (S : St) : Option (Int32 × St) := f_X12_event_b0 a1 a2 S
/-! StyleRows$Events.soundingAt(I)I -/
def f_X1_soundingAt_b36 (rec4 : Int32 × Int32 × St → Option (Int32 × St)) (v1 : Int32) (v2 : Int32) (v3 : Int32) (S : St) : Option (Int32 × St) :=
  rec4 (v2, v3 + 1, S)
def f_X1_soundingAt_b4 (rec4 : Int32 × Int32 × St → Option (Int32 × St)) (v1 : Int32) (v2 : Int32) (v3 : Int32) (S : St) : Option (Int32 × St) :=
  if (gI S 21) ≤ v3 then (some (v2, S))
    else (chk (inb v3 400) (if v1 < (rd S 42 v3) then (f_X1_soundingAt_b36 rec4 v1 v2 v3 S)
      else (bnd (f_X1_endOf v3 S) (fun r2 S1 => if r2 ≤ v1 then (f_X1_soundingAt_b36 rec4 v1 v2 v3 S1)
        else (f_X1_soundingAt_b36 rec4 v1 (v2 + 1) v3 S1)))))
def f_X1_soundingAt_l4 (v1 : Int32) (n : Nat) (s : Int32 × Int32 × St) : Option (Int32 × St) :=
  loopN (fun rec4 s => f_X1_soundingAt_b4 rec4 v1 s.1 s.2.1 s.2.2) n s
def f_X1_soundingAt_b0 (a1 : Int32) (S : St) : Option (Int32 × St) :=
  f_X1_soundingAt_l4 a1 fuel (0, 0, S)
def f_X1_soundingAt (a1 : Int32) (S : St) : Option (Int32 × St) := f_X1_soundingAt_b0 a1 S
/-! StyleRows.sounding(I)I -/
def f_X11_sounding_b0 (a1 : Int32) (S : St) : Option (Int32 × St) :=
  bnd (f_X1_soundingAt a1 S) (fun r2 S1 => some (r2, S1))
def f_X11_sounding (a1 : Int32) (S : St) : Option (Int32 × St) := f_X11_sounding_b0 a1 S
/-! StyleRowsModel.sounding(I)I -/
def f_X12_sounding_b56 (rec4 : Int32 × Int32 × St → Option (Int32 × St)) (v1 : Int32) (v3 : Int32) (w0 : Int32) (w1 : Int32) (S : St) : Option (Int32 × St) :=
  vlet (w0 + w1) (fun x1 => rec4 (x1, v3 + 1, S))
def f_X12_sounding_b55 (rec4 : Int32 × Int32 × St → Option (Int32 × St)) (v1 : Int32) (v3 : Int32) (w0 : Int32) (S : St) : Option (Int32 × St) :=
  f_X12_sounding_b56 rec4 v1 v3 w0 0 S
def f_X12_sounding_b4 (rec4 : Int32 × Int32 × St → Option (Int32 × St)) (v1 : Int32) (v2 : Int32) (v3 : Int32) (S : St) : Option (Int32 × St) :=
  if (gI S 34) ≤ v3 then (some (v2, S))
    else (chk (inb (6 * v3) 2400) (if v1 < (rd S 66 (6 * v3)) then (f_X12_sounding_b55 rec4 v1 v3 v2 S)
      else (chk (inb (6 * v3) 2400) (chk (inb ((6 * v3) + 1) 2400) (if ((rd S 66 (6 * v3)) + (rd S 66 ((6 * v3) + 1))) ≤ v1 then (f_X12_sounding_b55 rec4 v1 v3 v2 S)
        else (f_X12_sounding_b56 rec4 v1 v3 v2 1 S))))))
def f_X12_sounding_l4 (v1 : Int32) (n : Nat) (s : Int32 × Int32 × St) : Option (Int32 × St) :=
  loopN (fun rec4 s => f_X12_sounding_b4 rec4 v1 s.1 s.2.1 s.2.2) n s
def f_X12_sounding_b0 (a1 : Int32) (S : St) : Option (Int32 × St) :=
  f_X12_sounding_l4 a1 fuel (0, 0, S)
def f_X12_sounding (a1 : Int32) (S : St) : Option (Int32 × St) := f_X12_sounding_b0 a1 S
/-! StyleRows$Events.howManyOf(I)I -/
def f_X1_howManyOf_b27 (rec4 : Int32 × Int32 × St → Option (Int32 × St)) (v1 : Int32) (v2 : Int32) (v3 : Int32) (S : St) : Option (Int32 × St) :=
  rec4 (v2, v3 + 1, S)
def f_X1_howManyOf_b4 (rec4 : Int32 × Int32 × St → Option (Int32 × St)) (v1 : Int32) (v2 : Int32) (v3 : Int32) (S : St) : Option (Int32 × St) :=
  if (gI S 21) ≤ v3 then (some (v2, S))
    else (chk (inb v3 400) (if (rd S 46 v3) = v1 then (f_X1_howManyOf_b27 rec4 v1 (v2 + 1) v3 S)
      else (f_X1_howManyOf_b27 rec4 v1 v2 v3 S)))
def f_X1_howManyOf_l4 (v1 : Int32) (n : Nat) (s : Int32 × Int32 × St) : Option (Int32 × St) :=
  loopN (fun rec4 s => f_X1_howManyOf_b4 rec4 v1 s.1 s.2.1 s.2.2) n s
def f_X1_howManyOf_b0 (a1 : Int32) (S : St) : Option (Int32 × St) :=
  f_X1_howManyOf_l4 a1 fuel (0, 0, S)
def f_X1_howManyOf (a1 : Int32) (S : St) : Option (Int32 × St) := f_X1_howManyOf_b0 a1 S
/-! StyleRows$Events.firstBeginOf(I)I -/
def f_X1_firstBeginOf_b2 (rec2 : Int32 × St → Option (Int32 × St)) (v1 : Int32) (v2 : Int32) (S : St) : Option (Int32 × St) :=
  if (gI S 21) ≤ v2 then (some ((-1), S))
    else (chk (inb v2 400) (if (rd S 46 v2) = v1 then (chk (inb v2 400) (some (rd S 42 v2, S)))
      else (rec2 (v2 + 1, S))))
def f_X1_firstBeginOf_l2 (v1 : Int32) (n : Nat) (s : Int32 × St) : Option (Int32 × St) :=
  loopN (fun rec2 s => f_X1_firstBeginOf_b2 rec2 v1 s.1 s.2) n s
def f_X1_firstBeginOf_b0 (a1 : Int32) (S : St) : Option (Int32 × St) :=
  f_X1_firstBeginOf_l2 a1 fuel (0, S)
def f_X1_firstBeginOf (a1 : Int32) (S : St) : Option (Int32 × St) := f_X1_firstBeginOf_b0 a1 S
/-! StyleRows$Events.lastEndOf(I)I -/
def f_X1_lastEndOf_b52 (rec7 : Int32 × Int32 × Int32 × St → Option (Int32 × St)) (v1 : Int32) (v2 : Int32) (v3 : Int32) (v4 : Int32) (S : St) : Option (Int32 × St) :=
  rec7 (v2, v3, v4 + 1, S)
def f_X1_lastEndOf_b43 (rec7 : Int32 × Int32 × Int32 × St → Option (Int32 × St)) (v1 : Int32) (v4 : Int32) (S : St) : Option (Int32 × St) :=
  bnd (f_X1_endOf v4 S) (fun r2 S1 => f_X1_lastEndOf_b52 rec7 v1 1 r2 v4 S1)
def f_X1_lastEndOf_b7 (rec7 : Int32 × Int32 × Int32 × St → Option (Int32 × St)) (v1 : Int32) (v2 : Int32) (v3 : Int32) (v4 : Int32) (S : St) : Option (Int32 × St) :=
  if (gI S 21) ≤ v4 then (some (v3, S))
    else (chk (inb v4 400) (if (rd S 46 v4) = v1 then (if v2 = 0 then (f_X1_lastEndOf_b43 rec7 v1 v4 S)
        else (bnd (f_X1_endOf v4 S) (fun r4 S3 => if r4 ≤ v3 then (f_X1_lastEndOf_b52 rec7 v1 v2 v3 v4 S3)
          else (f_X1_lastEndOf_b43 rec7 v1 v4 S3))))
      else (f_X1_lastEndOf_b52 rec7 v1 v2 v3 v4 S)))
def f_X1_lastEndOf_l7 (v1 : Int32) (n : Nat) (s : Int32 × Int32 × Int32 × St) : Option (Int32 × St) :=
  loopN (fun rec7 s => f_X1_lastEndOf_b7 rec7 v1 s.1 s.2.1 s.2.2.1 s.2.2.2) n s
def f_X1_lastEndOf_b0 (a1 : Int32) (S : St) : Option (Int32 × St) :=
  f_X1_lastEndOf_l7 a1 fuel (0, (-1), 0, S)
def f_X1_lastEndOf (a1 : Int32) (S : St) : Option (Int32 × St) := f_X1_lastEndOf_b0 a1 S
/-! StyleRows.span(II)I -/
def f_X11_span_b0 (a1 : Int32) (a2 : Int32) (S : St) : Option (Int32 × St) :=
  bnd (f_X4_has a1 S) (fun r2 S1 => if r2 = 0 then (some ((-1001), S1))
    else (if a2 = 0 then (bnd (f_X1_howManyOf a1 S1) (fun r5 S4 => some (r5, S4)))
      else (if a2 = 1 then (bnd (f_X1_firstBeginOf a1 S1) (fun r8 S7 => some (r8, S7)))
      else (if a2 = 2 then (bnd (f_X1_lastEndOf a1 S1) (fun r11 S10 => some (r11, S10)))
      else (some ((-1001), S1))))))
def f_X11_span (a1 : Int32) (a2 : Int32) (S : St) : Option (Int32 × St) := f_X11_span_b0 a1 a2 S
/-! StyleRowsModel.span(II)I -/
def f_X12_span_b20 (S : St) : Option (Int32 × St) :=
  some ((-1001), S)
def f_X12_span_b170 (w0 : Int32) (S : St) : Option (Int32 × St) :=
  some (w0, S)
def f_X12_span_b144 (rec35 : Int32 × Int32 × Int32 × Int32 × St → Option (Int32 × St)) (v1 : Int32) (v2 : Int32) (v3 : Int32) (v4 : Int32) (v5 : Int32) (v6 : Int32) (S : St) : Option (Int32 × St) :=
  rec35 (v3, v4, v5, v6 + 1, S)
def f_X12_span_b139 (rec35 : Int32 × Int32 × Int32 × Int32 × St → Option (Int32 × St)) (v1 : Int32) (v2 : Int32) (v3 : Int32) (v4 : Int32) (v6 : Int32) (w0 : Int32) (S : St) : Option (Int32 × St) :=
  f_X12_span_b144 rec35 v1 v2 (v3 + 1) v4 w0 v6 S
def f_X12_span_b132 (rec35 : Int32 × Int32 × Int32 × Int32 × St → Option (Int32 × St)) (v1 : Int32) (v2 : Int32) (v3 : Int32) (v4 : Int32) (v6 : Int32) (v7 : Int32) (S : St) : Option (Int32 × St) :=
  f_X12_span_b139 rec35 v1 v2 v3 v4 v6 v7 S
def f_X12_span_b119 (rec35 : Int32 × Int32 × Int32 × Int32 × St → Option (Int32 × St)) (v1 : Int32) (v2 : Int32) (v3 : Int32) (v5 : Int32) (v6 : Int32) (v7 : Int32) (w0 : Int32) (S : St) : Option (Int32 × St) :=
  if v3 = 0 then (f_X12_span_b132 rec35 v1 v2 v3 w0 v6 v7 S)
    else (if v7 ≤ v5 then (f_X12_span_b139 rec35 v1 v2 v3 w0 v6 v5 S)
      else (f_X12_span_b132 rec35 v1 v2 v3 w0 v6 v7 S))
def f_X12_span_b104 (rec35 : Int32 × Int32 × Int32 × Int32 × St → Option (Int32 × St)) (v1 : Int32) (v2 : Int32) (v3 : Int32) (v5 : Int32) (v6 : Int32) (v7 : Int32) (S : St) : Option (Int32 × St) :=
  chk (inb (6 * v6) 2400) (f_X12_span_b119 rec35 v1 v2 v3 v5 v6 v7 (rd S 66 (6 * v6)) S)
def f_X12_span_b35 (rec35 : Int32 × Int32 × Int32 × Int32 × St → Option (Int32 × St)) (v1 : Int32) (v2 : Int32) (v3 : Int32) (v4 : Int32) (v5 : Int32) (v6 : Int32) (S : St) : Option (Int32 × St) :=
  if (gI S 34) ≤ v6 then (if v2 = 0 then (f_X12_span_b170 v3 S)
      else (if v2 = 1 then (f_X12_span_b170 v4 S)
        else (f_X12_span_b170 v5 S)))
    else (chk (inb ((6 * v6) + 4) 2400) (if (rd S 66 ((6 * v6) + 4)) = v1 then (chk (inb (6 * v6) 2400) (chk (inb ((6 * v6) + 1) 2400) (vlet ((rd S 66 (6 * v6)) + (rd S 66 ((6 * v6) + 1))) (fun x5 => if v3 = 0 then (f_X12_span_b104 rec35 v1 v2 v3 v5 v6 x5 S)
        else (chk (inb (6 * v6) 2400) (if v4 ≤ (rd S 66 (6 * v6)) then (f_X12_span_b119 rec35 v1 v2 v3 v5 v6 x5 v4 S)
          else (f_X12_span_b104 rec35 v1 v2 v3 v5 v6 x5 S)))))))
      else (f_X12_span_b144 rec35 v1 v2 v3 v4 v5 v6 S)))
def f_X12_span_l35 (v1 : Int32) (v2 : Int32) (n : Nat) (s : Int32 × Int32 × Int32 × Int32 × St) : Option (Int32 × St) :=
  loopN (fun rec35 s => f_X12_span_b35 rec35 v1 v2 s.1 s.2.1 s.2.2.1 s.2.2.2.1 s.2.2.2.2) n s
def f_X12_span_b0 (a1 : Int32) (a2 : Int32) (S : St) : Option (Int32 × St) :=
  bnd (f_X12_isNote a1 S) (fun r2 S1 => if r2 = 0 then (f_X12_span_b20 S1)
    else (bnd (f_X12_in (Int32.toInt64 a2) 0 2 S1) (fun r4 S3 => if r4 = 0 then (f_X12_span_b20 S3)
      else (f_X12_span_l35 a1 a2 fuel (0, (-1), (-1), 0, S3)))))
def f_X12_span (a1 : Int32) (a2 : Int32) (S : St) : Option (Int32 × St) := f_X12_span_b0 a1 a2 S
/-! StyleRows.count(I)I -/
def f_X11_count_b0 (a1 : Int32) (S : St) : Option (Int32 × St) :=
  if a1 = 0 then (some (gI S 2, S))
    else (if a1 = 1 then (some (gI S 3, S))
    else (if a1 = 2 then (some (gI S 4, S))
    else (if a1 = 3 then (some (gI S 6, S))
    else (if a1 = 4 then (some (gI S 21, S))
    else (if a1 = 5 then (some (gI S 5, S))
    else (some ((-1001), S)))))))
def f_X11_count (a1 : Int32) (S : St) : Option (Int32 × St) := f_X11_count_b0 a1 S
/-! StyleRowsModel.count(I)I -/
def f_X12_count_b74 (w0 : Int32) (S : St) : Option (Int32 × St) :=
  some (w0, S)
def f_X12_count_b0 (a1 : Int32) (S : St) : Option (Int32 × St) :=
  if a1 = 0 then (f_X12_count_b74 (gI S 23) S)
    else (if a1 = 1 then (f_X12_count_b74 (gI S 24) S)
      else (if a1 = 2 then (f_X12_count_b74 (gI S 27) S)
        else (if a1 = 3 then (f_X12_count_b74 (gI S 28) S)
          else (if a1 = 4 then (f_X12_count_b74 (gI S 34) S)
            else (if a1 = 5 then (f_X12_count_b74 (gI S 29) S)
              else (f_X12_count_b74 (-1001) S))))))
def f_X12_count (a1 : Int32) (S : St) : Option (Int32 × St) := f_X12_count_b0 a1 S
/-! StyleRowsLaw.law([I)Z -/
def f_L_law_b722 (L : Nat) (xs : Nat → Int32) (rec30 : Int32 × St → Option (Int32 × St)) (v3 : Int32) (S : St) : Option (Int32 × St) :=
  rec30 (v3 + 6, S)
def f_L_law_b279 (L : Nat) (xs : Nat → Int32) (rec30 : Int32 × St → Option (Int32 × St)) (v3 : Int32) (w0 : Int32) (w2 : Int32) (w3 : Int32) (w4 : Int32) (S : St) : Option (Int32 × St) :=
  bnd (f_X12_level w2 w3 w4 S) (fun r15 S14 => if w0 = r15 then (f_L_law_b722 L xs rec30 v3 S14)
    else (some (0, S14)))
def f_L_law_b252 (L : Nat) (xs : Nat → Int32) (rec30 : Int32 × St → Option (Int32 × St)) (v3 : Int32) (w1 : Int32) (w2 : Int32) (w3 : Int32) (S : St) : Option (Int32 × St) :=
  bnd (f_X11_level w1 w2 w3 S) (fun r13 S12 => chk (inb (v3 + 1) L) (chk (inb (v3 + 2) L) (chk (inb (v3 + 3) L) (if (xs (Int32.toNatClampNeg (v3 + 3))) = 0 then (f_L_law_b279 L xs rec30 v3 r13 (xs (Int32.toNatClampNeg (v3 + 1))) (xs (Int32.toNatClampNeg (v3 + 2))) 0 S12)
    else (f_L_law_b279 L xs rec30 v3 r13 (xs (Int32.toNatClampNeg (v3 + 1))) (xs (Int32.toNatClampNeg (v3 + 2))) 1 S12)))))
def f_L_law_b30 (L : Nat) (xs : Nat → Int32) (rec30 : Int32 × St → Option (Int32 × St)) (v3 : Int32) (S : St) : Option (Int32 × St) :=
  if ((nI L) - 6) < v3 then (some (1, S))
    else (chk (inb v3 L) (if ((xs (Int32.toNatClampNeg v3)) &&& 31) = 0 then (chk (inb (v3 + 1) L) (chk (inb (v3 + 2) L) (chk (inb (v3 + 3) L) (chk (inb (v3 + 4) L) (chk (inb (v3 + 5) L) (bnd (f_X11_note (xs (Int32.toNatClampNeg (v3 + 1))) (xs (Int32.toNatClampNeg (v3 + 2))) (xs (Int32.toNatClampNeg (v3 + 3))) (xs (Int32.toNatClampNeg (v3 + 4))) (xs (Int32.toNatClampNeg (v3 + 5))) S) (fun r3 S2 => chk (inb (v3 + 1) L) (chk (inb (v3 + 2) L) (chk (inb (v3 + 3) L) (chk (inb (v3 + 4) L) (chk (inb (v3 + 5) L) (bnd (f_X12_note (xs (Int32.toNatClampNeg (v3 + 1))) (xs (Int32.toNatClampNeg (v3 + 2))) (xs (Int32.toNatClampNeg (v3 + 3))) (xs (Int32.toNatClampNeg (v3 + 4))) (xs (Int32.toNatClampNeg (v3 + 5))) S2) (fun r5 S4 => if r3 = r5 then (f_L_law_b722 L xs rec30 v3 S4)
        else (some (0, S4)))))))))))))))
      else (if ((xs (Int32.toNatClampNeg v3)) &&& 31) = 1 then (chk (inb (v3 + 1) L) (chk (inb (v3 + 2) L) (bnd (f_X11_mark (xs (Int32.toNatClampNeg (v3 + 1))) (xs (Int32.toNatClampNeg (v3 + 2))) S) (fun r8 S7 => chk (inb (v3 + 1) L) (chk (inb (v3 + 2) L) (bnd (f_X12_mark (xs (Int32.toNatClampNeg (v3 + 1))) (xs (Int32.toNatClampNeg (v3 + 2))) S7) (fun r10 S9 => if r8 = r10 then (f_L_law_b722 L xs rec30 v3 S9)
        else (some (0, S9)))))))))
      else (if ((xs (Int32.toNatClampNeg v3)) &&& 31) = 2 then (chk (inb (v3 + 1) L) (chk (inb (v3 + 2) L) (chk (inb (v3 + 3) L) (if (xs (Int32.toNatClampNeg (v3 + 3))) = 0 then (f_L_law_b252 L xs rec30 v3 (xs (Int32.toNatClampNeg (v3 + 1))) (xs (Int32.toNatClampNeg (v3 + 2))) 0 S)
        else (f_L_law_b252 L xs rec30 v3 (xs (Int32.toNatClampNeg (v3 + 1))) (xs (Int32.toNatClampNeg (v3 + 2))) 1 S)))))
      else (if ((xs (Int32.toNatClampNeg v3)) &&& 31) = 3 then (chk (inb (v3 + 1) L) (chk (inb (v3 + 2) L) (bnd (f_X11_meter (xs (Int32.toNatClampNeg (v3 + 1))) (xs (Int32.toNatClampNeg (v3 + 2))) S) (fun r18 S17 => chk (inb (v3 + 1) L) (chk (inb (v3 + 2) L) (bnd (f_X12_meter (xs (Int32.toNatClampNeg (v3 + 1))) (xs (Int32.toNatClampNeg (v3 + 2))) S17) (fun r20 S19 => if r18 = r20 then (f_L_law_b722 L xs rec30 v3 S19)
        else (some (0, S19)))))))))
      else (if ((xs (Int32.toNatClampNeg v3)) &&& 31) = 4 then (chk (inb (v3 + 1) L) (chk (inb (v3 + 2) L) (chk (inb (v3 + 3) L) (bnd (f_X11_arc (xs (Int32.toNatClampNeg (v3 + 1))) (xs (Int32.toNatClampNeg (v3 + 2))) (xs (Int32.toNatClampNeg (v3 + 3))) S) (fun r23 S22 => chk (inb (v3 + 1) L) (chk (inb (v3 + 2) L) (chk (inb (v3 + 3) L) (bnd (f_X12_arc (xs (Int32.toNatClampNeg (v3 + 1))) (xs (Int32.toNatClampNeg (v3 + 2))) (xs (Int32.toNatClampNeg (v3 + 3))) S22) (fun r25 S24 => if r23 = r25 then (f_L_law_b722 L xs rec30 v3 S24)
        else (some (0, S24)))))))))))
      else (if ((xs (Int32.toNatClampNeg v3)) &&& 31) = 5 then (chk (inb (v3 + 1) L) (bnd (f_X11_levelAt (xs (Int32.toNatClampNeg (v3 + 1))) S) (fun r28 S27 => chk (inb (v3 + 1) L) (bnd (f_X12_levelAt (xs (Int32.toNatClampNeg (v3 + 1))) S27) (fun r30 S29 => if r28 = r30 then (f_L_law_b722 L xs rec30 v3 S29)
        else (some (0, S29)))))))
      else (if ((xs (Int32.toNatClampNeg v3)) &&& 31) = 6 then (chk (inb (v3 + 1) L) (bnd (f_X11_timeOf (xs (Int32.toNatClampNeg (v3 + 1))) S) (fun r33 S32 => chk (inb (v3 + 1) L) (bnd (f_X12_timeOf (xs (Int32.toNatClampNeg (v3 + 1))) S32) (fun r35 S34 => if r33 = r35 then (f_L_law_b722 L xs rec30 v3 S34)
        else (some (0, S34)))))))
      else (if ((xs (Int32.toNatClampNeg v3)) &&& 31) = 7 then (chk (inb (v3 + 1) L) (chk (inb (v3 + 2) L) (chk (inb (v3 + 3) L) (bnd (f_X11_feed (xs (Int32.toNatClampNeg (v3 + 1))) (((Int32.toInt64 (xs (Int32.toNatClampNeg (v3 + 2)))) <<< (Int32.toInt64 32 &&& 63)) ||| ((Int32.toInt64 (xs (Int32.toNatClampNeg (v3 + 3)))) &&& 4294967295)) S) (fun r38 S37 => chk (inb (v3 + 1) L) (chk (inb (v3 + 2) L) (chk (inb (v3 + 3) L) (bnd (f_X12_feed (xs (Int32.toNatClampNeg (v3 + 1))) (((Int32.toInt64 (xs (Int32.toNatClampNeg (v3 + 2)))) <<< (Int32.toInt64 32 &&& 63)) ||| ((Int32.toInt64 (xs (Int32.toNatClampNeg (v3 + 3)))) &&& 4294967295)) S37) (fun r40 S39 => if r38 = r40 then (f_L_law_b722 L xs rec30 v3 S39)
        else (some (0, S39)))))))))))
      else (if ((xs (Int32.toNatClampNeg v3)) &&& 31) = 8 then (bnd (f_X11_read S) (fun r43 S42 => bnd (f_X12_read S42) (fun r45 S44 => if r43 = r45 then (f_L_law_b722 L xs rec30 v3 S44)
        else (some (0, S44)))))
      else (if ((xs (Int32.toNatClampNeg v3)) &&& 31) = 9 then (bnd (f_X11_plain S) (fun r48 S47 => bnd (f_X12_plain S47) (fun r50 S49 => if r48 = r50 then (f_L_law_b722 L xs rec30 v3 S49)
        else (some (0, S49)))))
      else (if ((xs (Int32.toNatClampNeg v3)) &&& 31) = 10 then (chk (inb (v3 + 1) L) (chk (inb (v3 + 2) L) (bnd (f_X11_rule (xs (Int32.toNatClampNeg (v3 + 1))) (xs (Int32.toNatClampNeg (v3 + 2))) S) (fun r53 S52 => chk (inb (v3 + 1) L) (chk (inb (v3 + 2) L) (bnd (f_X12_rule (xs (Int32.toNatClampNeg (v3 + 1))) (xs (Int32.toNatClampNeg (v3 + 2))) S52) (fun r55 S54 => if r53 = r55 then (f_L_law_b722 L xs rec30 v3 S54)
        else (some (0, S54)))))))))
      else (if ((xs (Int32.toNatClampNeg v3)) &&& 31) = 11 then (chk (inb (v3 + 1) L) (chk (inb (v3 + 2) L) (bnd (f_X11_value (xs (Int32.toNatClampNeg (v3 + 1))) (xs (Int32.toNatClampNeg (v3 + 2))) S) (fun r58 S57 => chk (inb (v3 + 1) L) (chk (inb (v3 + 2) L) (bnd (f_X12_value (xs (Int32.toNatClampNeg (v3 + 1))) (xs (Int32.toNatClampNeg (v3 + 2))) S57) (fun r60 S59 => if r58 = r60 then (f_L_law_b722 L xs rec30 v3 S59)
        else (some (0, S59)))))))))
      else (if ((xs (Int32.toNatClampNeg v3)) &&& 31) = 12 then (chk (inb (v3 + 1) L) (chk (inb (v3 + 2) L) (bnd (f_X11_why (xs (Int32.toNatClampNeg (v3 + 1))) (xs (Int32.toNatClampNeg (v3 + 2))) S) (fun r63 S62 => chk (inb (v3 + 1) L) (chk (inb (v3 + 2) L) (bnd (f_X12_why (xs (Int32.toNatClampNeg (v3 + 1))) (xs (Int32.toNatClampNeg (v3 + 2))) S62) (fun r65 S64 => if r63 = r65 then (f_L_law_b722 L xs rec30 v3 S64)
        else (some (0, S64)))))))))
      else (if ((xs (Int32.toNatClampNeg v3)) &&& 31) = 13 then (bnd (f_X11_perform S) (fun r68 S67 => bnd (f_X12_perform S67) (fun r70 S69 => if r68 = r70 then (f_L_law_b722 L xs rec30 v3 S69)
        else (some (0, S69)))))
      else (if ((xs (Int32.toNatClampNeg v3)) &&& 31) = 14 then (chk (inb (v3 + 1) L) (chk (inb (v3 + 2) L) (bnd (f_X11_event (xs (Int32.toNatClampNeg (v3 + 1))) (xs (Int32.toNatClampNeg (v3 + 2))) S) (fun r73 S72 => chk (inb (v3 + 1) L) (chk (inb (v3 + 2) L) (bnd (f_X12_event (xs (Int32.toNatClampNeg (v3 + 1))) (xs (Int32.toNatClampNeg (v3 + 2))) S72) (fun r75 S74 => if r73 = r75 then (f_L_law_b722 L xs rec30 v3 S74)
        else (some (0, S74)))))))))
      else (if ((xs (Int32.toNatClampNeg v3)) &&& 31) = 15 then (chk (inb (v3 + 1) L) (bnd (f_X11_sounding (xs (Int32.toNatClampNeg (v3 + 1))) S) (fun r78 S77 => chk (inb (v3 + 1) L) (bnd (f_X12_sounding (xs (Int32.toNatClampNeg (v3 + 1))) S77) (fun r80 S79 => if r78 = r80 then (f_L_law_b722 L xs rec30 v3 S79)
        else (some (0, S79)))))))
      else (if ((xs (Int32.toNatClampNeg v3)) &&& 31) = 16 then (chk (inb (v3 + 1) L) (chk (inb (v3 + 2) L) (bnd (f_X11_span (xs (Int32.toNatClampNeg (v3 + 1))) (xs (Int32.toNatClampNeg (v3 + 2))) S) (fun r83 S82 => chk (inb (v3 + 1) L) (chk (inb (v3 + 2) L) (bnd (f_X12_span (xs (Int32.toNatClampNeg (v3 + 1))) (xs (Int32.toNatClampNeg (v3 + 2))) S82) (fun r85 S84 => if r83 = r85 then (f_L_law_b722 L xs rec30 v3 S84)
        else (some (0, S84)))))))))
      else (if ((xs (Int32.toNatClampNeg v3)) &&& 31) = 17 then (chk (inb (v3 + 1) L) (bnd (f_X11_count (xs (Int32.toNatClampNeg (v3 + 1))) S) (fun r88 S87 => chk (inb (v3 + 1) L) (bnd (f_X12_count (xs (Int32.toNatClampNeg (v3 + 1))) S87) (fun r90 S89 => if r88 = r90 then (f_L_law_b722 L xs rec30 v3 S89)
        else (some (0, S89)))))))
      else (f_L_law_b722 L xs rec30 v3 S))))))))))))))))))))
def f_L_law_l30 (L : Nat) (xs : Nat → Int32) (n : Nat) (s : Int32 × St) : Option (Int32 × St) :=
  loopN (fun rec30 s => f_L_law_b30 L xs rec30 s.1 s.2) n s
def f_L_law_b28 (L : Nat) (xs : Nat → Int32) (S : St) : Option (Int32 × St) :=
  f_L_law_l30 L xs fuel (1, S)
