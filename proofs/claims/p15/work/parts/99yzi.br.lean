theorem br_u0 (w : Int32) : (w.toUInt32 >>> ((0 : Int32).toUInt32 &&& Int32.toUInt32 31)).toInt32 = w := Int32.toBitVec_inj.mp (show w.toBitVec >>> 0 = w.toBitVec from BitVec.ushiftRight_zero w.toBitVec)
theorem br_u25 (w : Int32) : ((w.toUInt32 >>> ((25 : Int32).toUInt32 &&& Int32.toUInt32 31)).toInt32 &&& (127 : Int32)) = (w.toUInt32 >>> ((25 : Int32).toUInt32 &&& Int32.toUInt32 31)).toInt32 := by
  have e : (w.toBitVec >>> 25 &&& 127#32 : BitVec 32) = w.toBitVec >>> 25 := by
    refine BitVec.eq_of_getLsbD_eq (fun i hi => ?_)
    rcases (show i = 0 ∨ i = 1 ∨ i = 2 ∨ i = 3 ∨ i = 4 ∨ i = 5 ∨ i = 6 ∨ i = 7 ∨ i = 8 ∨ i = 9 ∨ i = 10 ∨ i = 11 ∨ i = 12 ∨ i = 13 ∨ i = 14 ∨ i = 15 ∨ i = 16 ∨ i = 17 ∨ i = 18 ∨ i = 19 ∨ i = 20 ∨ i = 21 ∨ i = 22 ∨ i = 23 ∨ i = 24 ∨ i = 25 ∨ i = 26 ∨ i = 27 ∨ i = 28 ∨ i = 29 ∨ i = 30 ∨ i = 31 by omega) with rfl | rfl | rfl | rfl | rfl | rfl | rfl | rfl | rfl | rfl | rfl | rfl | rfl | rfl | rfl | rfl | rfl | rfl | rfl | rfl | rfl | rfl | rfl | rfl | rfl | rfl | rfl | rfl | rfl | rfl | rfl | rfl <;> simp [BitVec.getLsbD_sshiftRight, BitVec.getLsbD_signExtend, BitVec.getElem_sshiftRight, BitVec.getElem_signExtend, BitVec.msb_eq_getLsbD_last]
  exact Int32.toBitVec_inj.mp e
theorem br_j12 (w : Int32) : (((w.toUInt32 >>> ((12 : Int32).toUInt32 &&& Int32.toUInt32 31)).toInt32 &&& (255 : Int32)) <<< ((12 : Int32) &&& 31)) = (w &&& (1044480 : Int32)) := by
  have e : ((w.toBitVec >>> 12 &&& 255#32) <<< 12 : BitVec 32) = w.toBitVec &&& 1044480#32 := by
    refine BitVec.eq_of_getLsbD_eq (fun i hi => ?_)
    rcases (show i = 0 ∨ i = 1 ∨ i = 2 ∨ i = 3 ∨ i = 4 ∨ i = 5 ∨ i = 6 ∨ i = 7 ∨ i = 8 ∨ i = 9 ∨ i = 10 ∨ i = 11 ∨ i = 12 ∨ i = 13 ∨ i = 14 ∨ i = 15 ∨ i = 16 ∨ i = 17 ∨ i = 18 ∨ i = 19 ∨ i = 20 ∨ i = 21 ∨ i = 22 ∨ i = 23 ∨ i = 24 ∨ i = 25 ∨ i = 26 ∨ i = 27 ∨ i = 28 ∨ i = 29 ∨ i = 30 ∨ i = 31 by omega) with rfl | rfl | rfl | rfl | rfl | rfl | rfl | rfl | rfl | rfl | rfl | rfl | rfl | rfl | rfl | rfl | rfl | rfl | rfl | rfl | rfl | rfl | rfl | rfl | rfl | rfl | rfl | rfl | rfl | rfl | rfl | rfl <;> simp [BitVec.getLsbD_sshiftRight, BitVec.getLsbD_signExtend, BitVec.getElem_sshiftRight, BitVec.getElem_signExtend, BitVec.msb_eq_getLsbD_last]
  exact Int32.toBitVec_inj.mp e
theorem br_n31 (w : Int32) : ((w >>> ((20 : Int32) &&& 31)) &&& 31) = (((w.toUInt32 >>> ((20 : Int32).toUInt32 &&& Int32.toUInt32 31)).toInt32 &&& (31 : Int32)) &&& 31) := by
  have e : (w.toBitVec.sshiftRight 20 &&& 31#32 : BitVec 32) = (w.toBitVec >>> 20 &&& 31#32) &&& 31#32 := by
    refine BitVec.eq_of_getLsbD_eq (fun i hi => ?_)
    rcases (show i = 0 ∨ i = 1 ∨ i = 2 ∨ i = 3 ∨ i = 4 ∨ i = 5 ∨ i = 6 ∨ i = 7 ∨ i = 8 ∨ i = 9 ∨ i = 10 ∨ i = 11 ∨ i = 12 ∨ i = 13 ∨ i = 14 ∨ i = 15 ∨ i = 16 ∨ i = 17 ∨ i = 18 ∨ i = 19 ∨ i = 20 ∨ i = 21 ∨ i = 22 ∨ i = 23 ∨ i = 24 ∨ i = 25 ∨ i = 26 ∨ i = 27 ∨ i = 28 ∨ i = 29 ∨ i = 30 ∨ i = 31 by omega) with rfl | rfl | rfl | rfl | rfl | rfl | rfl | rfl | rfl | rfl | rfl | rfl | rfl | rfl | rfl | rfl | rfl | rfl | rfl | rfl | rfl | rfl | rfl | rfl | rfl | rfl | rfl | rfl | rfl | rfl | rfl | rfl <;> simp [BitVec.getLsbD_sshiftRight, BitVec.getLsbD_signExtend, BitVec.getElem_sshiftRight, BitVec.getElem_signExtend, BitVec.msb_eq_getLsbD_last]
  exact Int32.toBitVec_inj.mp e
theorem br_n31u (w : Int32) : ((w >>> ((20 : Int32) &&& 31)).toUInt32 &&& Int32.toUInt32 31) = (((w.toUInt32 >>> ((20 : Int32).toUInt32 &&& Int32.toUInt32 31)).toInt32 &&& (31 : Int32)).toUInt32 &&& Int32.toUInt32 31) := congrArg Int32.toUInt32 (br_n31 w)
theorem br_31 (b : Int32) : ((b &&& (31 : Int32)) &&& 31) = b &&& 31 := by rw [Int32.and_assoc]; rfl
theorem br_31u (b : Int32) : ((b &&& (31 : Int32)).toUInt32 &&& Int32.toUInt32 31) = (b.toUInt32 &&& Int32.toUInt32 31) := congrArg Int32.toUInt32 (br_31 b)
theorem br_l4 (m : Int32) : (((((((((0 : Int32) <<< ((8 : Int32) &&& 31)) ||| (((m.toUInt32 >>> ((24 : Int32).toUInt32 &&& Int32.toUInt32 31)).toInt32) &&& (255 : Int32))) <<< ((8 : Int32) &&& 31)) ||| (((m.toUInt32 >>> ((16 : Int32).toUInt32 &&& Int32.toUInt32 31)).toInt32) &&& (255 : Int32))) <<< ((8 : Int32) &&& 31)) ||| (((m.toUInt32 >>> ((8 : Int32).toUInt32 &&& Int32.toUInt32 31)).toInt32) &&& (255 : Int32))) <<< ((8 : Int32) &&& 31)) ||| (((m.toUInt32 >>> ((0 : Int32).toUInt32 &&& Int32.toUInt32 31)).toInt32) &&& (255 : Int32))) = ((((m.toUInt32 >>> ((0 : Int32).toUInt32 &&& Int32.toUInt32 31)).toInt32) <<< ((0 : Int32) &&& 31)) >>> ((0 : Int32) &&& 31)) := by
  have e : (((((0#32 <<< 8 ||| (m.toBitVec >>> 24 &&& 255#32)) <<< 8 ||| (m.toBitVec >>> 16 &&& 255#32)) <<< 8 ||| (m.toBitVec >>> 8 &&& 255#32)) <<< 8 ||| (m.toBitVec >>> 0 &&& 255#32)) : BitVec 32) = ((m.toBitVec >>> 0) <<< 0).sshiftRight 0 := by
    refine BitVec.eq_of_getLsbD_eq (fun i hi => ?_)
    rcases (show i = 0 ∨ i = 1 ∨ i = 2 ∨ i = 3 ∨ i = 4 ∨ i = 5 ∨ i = 6 ∨ i = 7 ∨ i = 8 ∨ i = 9 ∨ i = 10 ∨ i = 11 ∨ i = 12 ∨ i = 13 ∨ i = 14 ∨ i = 15 ∨ i = 16 ∨ i = 17 ∨ i = 18 ∨ i = 19 ∨ i = 20 ∨ i = 21 ∨ i = 22 ∨ i = 23 ∨ i = 24 ∨ i = 25 ∨ i = 26 ∨ i = 27 ∨ i = 28 ∨ i = 29 ∨ i = 30 ∨ i = 31 by omega) with rfl | rfl | rfl | rfl | rfl | rfl | rfl | rfl | rfl | rfl | rfl | rfl | rfl | rfl | rfl | rfl | rfl | rfl | rfl | rfl | rfl | rfl | rfl | rfl | rfl | rfl | rfl | rfl | rfl | rfl | rfl | rfl <;> simp [BitVec.getLsbD_sshiftRight, BitVec.getLsbD_signExtend, BitVec.getElem_sshiftRight, BitVec.getElem_signExtend, BitVec.msb_eq_getLsbD_last]
  exact Int32.toBitVec_inj.mp e
theorem br_h0 (m : Int32) : ((((((0 : Int32) <<< ((8 : Int32) &&& 31)) ||| (((m.toUInt32 >>> ((8 : Int32).toUInt32 &&& Int32.toUInt32 31)).toInt32) &&& (255 : Int32))) <<< ((8 : Int32) &&& 31)) ||| (((m.toUInt32 >>> ((0 : Int32).toUInt32 &&& Int32.toUInt32 31)).toInt32) &&& (255 : Int32)))).toInt16.toInt32 = ((((m.toUInt32 >>> ((0 : Int32).toUInt32 &&& Int32.toUInt32 31)).toInt32) <<< ((16 : Int32) &&& 31)) >>> ((16 : Int32) &&& 31)) := by
  have e : ((((0#32 <<< 8 ||| (m.toBitVec >>> 8 &&& 255#32)) <<< 8 ||| (m.toBitVec >>> 0 &&& 255#32)).signExtend 16).signExtend 32 : BitVec 32) = ((m.toBitVec >>> 0) <<< 16).sshiftRight 16 := by
    refine BitVec.eq_of_getLsbD_eq (fun i hi => ?_)
    rcases (show i = 0 ∨ i = 1 ∨ i = 2 ∨ i = 3 ∨ i = 4 ∨ i = 5 ∨ i = 6 ∨ i = 7 ∨ i = 8 ∨ i = 9 ∨ i = 10 ∨ i = 11 ∨ i = 12 ∨ i = 13 ∨ i = 14 ∨ i = 15 ∨ i = 16 ∨ i = 17 ∨ i = 18 ∨ i = 19 ∨ i = 20 ∨ i = 21 ∨ i = 22 ∨ i = 23 ∨ i = 24 ∨ i = 25 ∨ i = 26 ∨ i = 27 ∨ i = 28 ∨ i = 29 ∨ i = 30 ∨ i = 31 by omega) with rfl | rfl | rfl | rfl | rfl | rfl | rfl | rfl | rfl | rfl | rfl | rfl | rfl | rfl | rfl | rfl | rfl | rfl | rfl | rfl | rfl | rfl | rfl | rfl | rfl | rfl | rfl | rfl | rfl | rfl | rfl | rfl <;> simp [BitVec.getLsbD_sshiftRight, BitVec.getLsbD_signExtend, BitVec.getElem_sshiftRight, BitVec.getElem_signExtend, BitVec.msb_eq_getLsbD_last]
  exact Int32.toBitVec_inj.mp e
theorem br_hu0 (m : Int32) : (((((0 : Int32) <<< ((8 : Int32) &&& 31)) ||| (((m.toUInt32 >>> ((8 : Int32).toUInt32 &&& Int32.toUInt32 31)).toInt32) &&& (255 : Int32))) <<< ((8 : Int32) &&& 31)) ||| (((m.toUInt32 >>> ((0 : Int32).toUInt32 &&& Int32.toUInt32 31)).toInt32) &&& (255 : Int32))) = (((((m.toUInt32 >>> ((0 : Int32).toUInt32 &&& Int32.toUInt32 31)).toInt32) <<< ((16 : Int32) &&& 31)).toUInt32 >>> ((16 : Int32).toUInt32 &&& Int32.toUInt32 31)).toInt32) := by
  have e : (((0#32 <<< 8 ||| (m.toBitVec >>> 8 &&& 255#32)) <<< 8 ||| (m.toBitVec >>> 0 &&& 255#32)) : BitVec 32) = ((m.toBitVec >>> 0) <<< 16) >>> 16 := by
    refine BitVec.eq_of_getLsbD_eq (fun i hi => ?_)
    rcases (show i = 0 ∨ i = 1 ∨ i = 2 ∨ i = 3 ∨ i = 4 ∨ i = 5 ∨ i = 6 ∨ i = 7 ∨ i = 8 ∨ i = 9 ∨ i = 10 ∨ i = 11 ∨ i = 12 ∨ i = 13 ∨ i = 14 ∨ i = 15 ∨ i = 16 ∨ i = 17 ∨ i = 18 ∨ i = 19 ∨ i = 20 ∨ i = 21 ∨ i = 22 ∨ i = 23 ∨ i = 24 ∨ i = 25 ∨ i = 26 ∨ i = 27 ∨ i = 28 ∨ i = 29 ∨ i = 30 ∨ i = 31 by omega) with rfl | rfl | rfl | rfl | rfl | rfl | rfl | rfl | rfl | rfl | rfl | rfl | rfl | rfl | rfl | rfl | rfl | rfl | rfl | rfl | rfl | rfl | rfl | rfl | rfl | rfl | rfl | rfl | rfl | rfl | rfl | rfl <;> simp [BitVec.getLsbD_sshiftRight, BitVec.getLsbD_signExtend, BitVec.getElem_sshiftRight, BitVec.getElem_signExtend, BitVec.msb_eq_getLsbD_last]
  exact Int32.toBitVec_inj.mp e
theorem br_h16 (m : Int32) : ((((((0 : Int32) <<< ((8 : Int32) &&& 31)) ||| (((m.toUInt32 >>> ((24 : Int32).toUInt32 &&& Int32.toUInt32 31)).toInt32) &&& (255 : Int32))) <<< ((8 : Int32) &&& 31)) ||| (((m.toUInt32 >>> ((16 : Int32).toUInt32 &&& Int32.toUInt32 31)).toInt32) &&& (255 : Int32)))).toInt16.toInt32 = ((((m.toUInt32 >>> ((16 : Int32).toUInt32 &&& Int32.toUInt32 31)).toInt32) <<< ((16 : Int32) &&& 31)) >>> ((16 : Int32) &&& 31)) := by
  have e : ((((0#32 <<< 8 ||| (m.toBitVec >>> 24 &&& 255#32)) <<< 8 ||| (m.toBitVec >>> 16 &&& 255#32)).signExtend 16).signExtend 32 : BitVec 32) = ((m.toBitVec >>> 16) <<< 16).sshiftRight 16 := by
    refine BitVec.eq_of_getLsbD_eq (fun i hi => ?_)
    rcases (show i = 0 ∨ i = 1 ∨ i = 2 ∨ i = 3 ∨ i = 4 ∨ i = 5 ∨ i = 6 ∨ i = 7 ∨ i = 8 ∨ i = 9 ∨ i = 10 ∨ i = 11 ∨ i = 12 ∨ i = 13 ∨ i = 14 ∨ i = 15 ∨ i = 16 ∨ i = 17 ∨ i = 18 ∨ i = 19 ∨ i = 20 ∨ i = 21 ∨ i = 22 ∨ i = 23 ∨ i = 24 ∨ i = 25 ∨ i = 26 ∨ i = 27 ∨ i = 28 ∨ i = 29 ∨ i = 30 ∨ i = 31 by omega) with rfl | rfl | rfl | rfl | rfl | rfl | rfl | rfl | rfl | rfl | rfl | rfl | rfl | rfl | rfl | rfl | rfl | rfl | rfl | rfl | rfl | rfl | rfl | rfl | rfl | rfl | rfl | rfl | rfl | rfl | rfl | rfl <;> simp [BitVec.getLsbD_sshiftRight, BitVec.getLsbD_signExtend, BitVec.getElem_sshiftRight, BitVec.getElem_signExtend, BitVec.msb_eq_getLsbD_last]
  exact Int32.toBitVec_inj.mp e
theorem br_hu16 (m : Int32) : (((((0 : Int32) <<< ((8 : Int32) &&& 31)) ||| (((m.toUInt32 >>> ((24 : Int32).toUInt32 &&& Int32.toUInt32 31)).toInt32) &&& (255 : Int32))) <<< ((8 : Int32) &&& 31)) ||| (((m.toUInt32 >>> ((16 : Int32).toUInt32 &&& Int32.toUInt32 31)).toInt32) &&& (255 : Int32))) = (((((m.toUInt32 >>> ((16 : Int32).toUInt32 &&& Int32.toUInt32 31)).toInt32) <<< ((16 : Int32) &&& 31)).toUInt32 >>> ((16 : Int32).toUInt32 &&& Int32.toUInt32 31)).toInt32) := by
  have e : (((0#32 <<< 8 ||| (m.toBitVec >>> 24 &&& 255#32)) <<< 8 ||| (m.toBitVec >>> 16 &&& 255#32)) : BitVec 32) = ((m.toBitVec >>> 16) <<< 16) >>> 16 := by
    refine BitVec.eq_of_getLsbD_eq (fun i hi => ?_)
    rcases (show i = 0 ∨ i = 1 ∨ i = 2 ∨ i = 3 ∨ i = 4 ∨ i = 5 ∨ i = 6 ∨ i = 7 ∨ i = 8 ∨ i = 9 ∨ i = 10 ∨ i = 11 ∨ i = 12 ∨ i = 13 ∨ i = 14 ∨ i = 15 ∨ i = 16 ∨ i = 17 ∨ i = 18 ∨ i = 19 ∨ i = 20 ∨ i = 21 ∨ i = 22 ∨ i = 23 ∨ i = 24 ∨ i = 25 ∨ i = 26 ∨ i = 27 ∨ i = 28 ∨ i = 29 ∨ i = 30 ∨ i = 31 by omega) with rfl | rfl | rfl | rfl | rfl | rfl | rfl | rfl | rfl | rfl | rfl | rfl | rfl | rfl | rfl | rfl | rfl | rfl | rfl | rfl | rfl | rfl | rfl | rfl | rfl | rfl | rfl | rfl | rfl | rfl | rfl | rfl <;> simp [BitVec.getLsbD_sshiftRight, BitVec.getLsbD_signExtend, BitVec.getElem_sshiftRight, BitVec.getElem_signExtend, BitVec.msb_eq_getLsbD_last]
  exact Int32.toBitVec_inj.mp e
theorem br_b0 (m : Int32) : ((((0 : Int32) <<< ((8 : Int32) &&& 31)) ||| (((m.toUInt32 >>> ((0 : Int32).toUInt32 &&& Int32.toUInt32 31)).toInt32) &&& (255 : Int32)))).toInt8.toInt32 = ((((m.toUInt32 >>> ((0 : Int32).toUInt32 &&& Int32.toUInt32 31)).toInt32) <<< ((24 : Int32) &&& 31)) >>> ((24 : Int32) &&& 31)) := by
  have e : (((0#32 <<< 8 ||| (m.toBitVec >>> 0 &&& 255#32)).signExtend 8).signExtend 32 : BitVec 32) = ((m.toBitVec >>> 0) <<< 24).sshiftRight 24 := by
    refine BitVec.eq_of_getLsbD_eq (fun i hi => ?_)
    rcases (show i = 0 ∨ i = 1 ∨ i = 2 ∨ i = 3 ∨ i = 4 ∨ i = 5 ∨ i = 6 ∨ i = 7 ∨ i = 8 ∨ i = 9 ∨ i = 10 ∨ i = 11 ∨ i = 12 ∨ i = 13 ∨ i = 14 ∨ i = 15 ∨ i = 16 ∨ i = 17 ∨ i = 18 ∨ i = 19 ∨ i = 20 ∨ i = 21 ∨ i = 22 ∨ i = 23 ∨ i = 24 ∨ i = 25 ∨ i = 26 ∨ i = 27 ∨ i = 28 ∨ i = 29 ∨ i = 30 ∨ i = 31 by omega) with rfl | rfl | rfl | rfl | rfl | rfl | rfl | rfl | rfl | rfl | rfl | rfl | rfl | rfl | rfl | rfl | rfl | rfl | rfl | rfl | rfl | rfl | rfl | rfl | rfl | rfl | rfl | rfl | rfl | rfl | rfl | rfl <;> simp [BitVec.getLsbD_sshiftRight, BitVec.getLsbD_signExtend, BitVec.getElem_sshiftRight, BitVec.getElem_signExtend, BitVec.msb_eq_getLsbD_last]
  exact Int32.toBitVec_inj.mp e
theorem br_bu0 (m : Int32) : (((0 : Int32) <<< ((8 : Int32) &&& 31)) ||| (((m.toUInt32 >>> ((0 : Int32).toUInt32 &&& Int32.toUInt32 31)).toInt32) &&& (255 : Int32))) = (((((m.toUInt32 >>> ((0 : Int32).toUInt32 &&& Int32.toUInt32 31)).toInt32) <<< ((24 : Int32) &&& 31)).toUInt32 >>> ((24 : Int32).toUInt32 &&& Int32.toUInt32 31)).toInt32) := by
  have e : ((0#32 <<< 8 ||| (m.toBitVec >>> 0 &&& 255#32)) : BitVec 32) = ((m.toBitVec >>> 0) <<< 24) >>> 24 := by
    refine BitVec.eq_of_getLsbD_eq (fun i hi => ?_)
    rcases (show i = 0 ∨ i = 1 ∨ i = 2 ∨ i = 3 ∨ i = 4 ∨ i = 5 ∨ i = 6 ∨ i = 7 ∨ i = 8 ∨ i = 9 ∨ i = 10 ∨ i = 11 ∨ i = 12 ∨ i = 13 ∨ i = 14 ∨ i = 15 ∨ i = 16 ∨ i = 17 ∨ i = 18 ∨ i = 19 ∨ i = 20 ∨ i = 21 ∨ i = 22 ∨ i = 23 ∨ i = 24 ∨ i = 25 ∨ i = 26 ∨ i = 27 ∨ i = 28 ∨ i = 29 ∨ i = 30 ∨ i = 31 by omega) with rfl | rfl | rfl | rfl | rfl | rfl | rfl | rfl | rfl | rfl | rfl | rfl | rfl | rfl | rfl | rfl | rfl | rfl | rfl | rfl | rfl | rfl | rfl | rfl | rfl | rfl | rfl | rfl | rfl | rfl | rfl | rfl <;> simp [BitVec.getLsbD_sshiftRight, BitVec.getLsbD_signExtend, BitVec.getElem_sshiftRight, BitVec.getElem_signExtend, BitVec.msb_eq_getLsbD_last]
  exact Int32.toBitVec_inj.mp e
theorem br_b8 (m : Int32) : ((((0 : Int32) <<< ((8 : Int32) &&& 31)) ||| (((m.toUInt32 >>> ((8 : Int32).toUInt32 &&& Int32.toUInt32 31)).toInt32) &&& (255 : Int32)))).toInt8.toInt32 = ((((m.toUInt32 >>> ((8 : Int32).toUInt32 &&& Int32.toUInt32 31)).toInt32) <<< ((24 : Int32) &&& 31)) >>> ((24 : Int32) &&& 31)) := by
  have e : (((0#32 <<< 8 ||| (m.toBitVec >>> 8 &&& 255#32)).signExtend 8).signExtend 32 : BitVec 32) = ((m.toBitVec >>> 8) <<< 24).sshiftRight 24 := by
    refine BitVec.eq_of_getLsbD_eq (fun i hi => ?_)
    rcases (show i = 0 ∨ i = 1 ∨ i = 2 ∨ i = 3 ∨ i = 4 ∨ i = 5 ∨ i = 6 ∨ i = 7 ∨ i = 8 ∨ i = 9 ∨ i = 10 ∨ i = 11 ∨ i = 12 ∨ i = 13 ∨ i = 14 ∨ i = 15 ∨ i = 16 ∨ i = 17 ∨ i = 18 ∨ i = 19 ∨ i = 20 ∨ i = 21 ∨ i = 22 ∨ i = 23 ∨ i = 24 ∨ i = 25 ∨ i = 26 ∨ i = 27 ∨ i = 28 ∨ i = 29 ∨ i = 30 ∨ i = 31 by omega) with rfl | rfl | rfl | rfl | rfl | rfl | rfl | rfl | rfl | rfl | rfl | rfl | rfl | rfl | rfl | rfl | rfl | rfl | rfl | rfl | rfl | rfl | rfl | rfl | rfl | rfl | rfl | rfl | rfl | rfl | rfl | rfl <;> simp [BitVec.getLsbD_sshiftRight, BitVec.getLsbD_signExtend, BitVec.getElem_sshiftRight, BitVec.getElem_signExtend, BitVec.msb_eq_getLsbD_last]
  exact Int32.toBitVec_inj.mp e
theorem br_bu8 (m : Int32) : (((0 : Int32) <<< ((8 : Int32) &&& 31)) ||| (((m.toUInt32 >>> ((8 : Int32).toUInt32 &&& Int32.toUInt32 31)).toInt32) &&& (255 : Int32))) = (((((m.toUInt32 >>> ((8 : Int32).toUInt32 &&& Int32.toUInt32 31)).toInt32) <<< ((24 : Int32) &&& 31)).toUInt32 >>> ((24 : Int32).toUInt32 &&& Int32.toUInt32 31)).toInt32) := by
  have e : ((0#32 <<< 8 ||| (m.toBitVec >>> 8 &&& 255#32)) : BitVec 32) = ((m.toBitVec >>> 8) <<< 24) >>> 24 := by
    refine BitVec.eq_of_getLsbD_eq (fun i hi => ?_)
    rcases (show i = 0 ∨ i = 1 ∨ i = 2 ∨ i = 3 ∨ i = 4 ∨ i = 5 ∨ i = 6 ∨ i = 7 ∨ i = 8 ∨ i = 9 ∨ i = 10 ∨ i = 11 ∨ i = 12 ∨ i = 13 ∨ i = 14 ∨ i = 15 ∨ i = 16 ∨ i = 17 ∨ i = 18 ∨ i = 19 ∨ i = 20 ∨ i = 21 ∨ i = 22 ∨ i = 23 ∨ i = 24 ∨ i = 25 ∨ i = 26 ∨ i = 27 ∨ i = 28 ∨ i = 29 ∨ i = 30 ∨ i = 31 by omega) with rfl | rfl | rfl | rfl | rfl | rfl | rfl | rfl | rfl | rfl | rfl | rfl | rfl | rfl | rfl | rfl | rfl | rfl | rfl | rfl | rfl | rfl | rfl | rfl | rfl | rfl | rfl | rfl | rfl | rfl | rfl | rfl <;> simp [BitVec.getLsbD_sshiftRight, BitVec.getLsbD_signExtend, BitVec.getElem_sshiftRight, BitVec.getElem_signExtend, BitVec.msb_eq_getLsbD_last]
  exact Int32.toBitVec_inj.mp e
theorem br_b16 (m : Int32) : ((((0 : Int32) <<< ((8 : Int32) &&& 31)) ||| (((m.toUInt32 >>> ((16 : Int32).toUInt32 &&& Int32.toUInt32 31)).toInt32) &&& (255 : Int32)))).toInt8.toInt32 = ((((m.toUInt32 >>> ((16 : Int32).toUInt32 &&& Int32.toUInt32 31)).toInt32) <<< ((24 : Int32) &&& 31)) >>> ((24 : Int32) &&& 31)) := by
  have e : (((0#32 <<< 8 ||| (m.toBitVec >>> 16 &&& 255#32)).signExtend 8).signExtend 32 : BitVec 32) = ((m.toBitVec >>> 16) <<< 24).sshiftRight 24 := by
    refine BitVec.eq_of_getLsbD_eq (fun i hi => ?_)
    rcases (show i = 0 ∨ i = 1 ∨ i = 2 ∨ i = 3 ∨ i = 4 ∨ i = 5 ∨ i = 6 ∨ i = 7 ∨ i = 8 ∨ i = 9 ∨ i = 10 ∨ i = 11 ∨ i = 12 ∨ i = 13 ∨ i = 14 ∨ i = 15 ∨ i = 16 ∨ i = 17 ∨ i = 18 ∨ i = 19 ∨ i = 20 ∨ i = 21 ∨ i = 22 ∨ i = 23 ∨ i = 24 ∨ i = 25 ∨ i = 26 ∨ i = 27 ∨ i = 28 ∨ i = 29 ∨ i = 30 ∨ i = 31 by omega) with rfl | rfl | rfl | rfl | rfl | rfl | rfl | rfl | rfl | rfl | rfl | rfl | rfl | rfl | rfl | rfl | rfl | rfl | rfl | rfl | rfl | rfl | rfl | rfl | rfl | rfl | rfl | rfl | rfl | rfl | rfl | rfl <;> simp [BitVec.getLsbD_sshiftRight, BitVec.getLsbD_signExtend, BitVec.getElem_sshiftRight, BitVec.getElem_signExtend, BitVec.msb_eq_getLsbD_last]
  exact Int32.toBitVec_inj.mp e
theorem br_bu16 (m : Int32) : (((0 : Int32) <<< ((8 : Int32) &&& 31)) ||| (((m.toUInt32 >>> ((16 : Int32).toUInt32 &&& Int32.toUInt32 31)).toInt32) &&& (255 : Int32))) = (((((m.toUInt32 >>> ((16 : Int32).toUInt32 &&& Int32.toUInt32 31)).toInt32) <<< ((24 : Int32) &&& 31)).toUInt32 >>> ((24 : Int32).toUInt32 &&& Int32.toUInt32 31)).toInt32) := by
  have e : ((0#32 <<< 8 ||| (m.toBitVec >>> 16 &&& 255#32)) : BitVec 32) = ((m.toBitVec >>> 16) <<< 24) >>> 24 := by
    refine BitVec.eq_of_getLsbD_eq (fun i hi => ?_)
    rcases (show i = 0 ∨ i = 1 ∨ i = 2 ∨ i = 3 ∨ i = 4 ∨ i = 5 ∨ i = 6 ∨ i = 7 ∨ i = 8 ∨ i = 9 ∨ i = 10 ∨ i = 11 ∨ i = 12 ∨ i = 13 ∨ i = 14 ∨ i = 15 ∨ i = 16 ∨ i = 17 ∨ i = 18 ∨ i = 19 ∨ i = 20 ∨ i = 21 ∨ i = 22 ∨ i = 23 ∨ i = 24 ∨ i = 25 ∨ i = 26 ∨ i = 27 ∨ i = 28 ∨ i = 29 ∨ i = 30 ∨ i = 31 by omega) with rfl | rfl | rfl | rfl | rfl | rfl | rfl | rfl | rfl | rfl | rfl | rfl | rfl | rfl | rfl | rfl | rfl | rfl | rfl | rfl | rfl | rfl | rfl | rfl | rfl | rfl | rfl | rfl | rfl | rfl | rfl | rfl <;> simp [BitVec.getLsbD_sshiftRight, BitVec.getLsbD_signExtend, BitVec.getElem_sshiftRight, BitVec.getElem_signExtend, BitVec.msb_eq_getLsbD_last]
  exact Int32.toBitVec_inj.mp e
theorem br_b24 (m : Int32) : ((((0 : Int32) <<< ((8 : Int32) &&& 31)) ||| (((m.toUInt32 >>> ((24 : Int32).toUInt32 &&& Int32.toUInt32 31)).toInt32) &&& (255 : Int32)))).toInt8.toInt32 = ((((m.toUInt32 >>> ((24 : Int32).toUInt32 &&& Int32.toUInt32 31)).toInt32) <<< ((24 : Int32) &&& 31)) >>> ((24 : Int32) &&& 31)) := by
  have e : (((0#32 <<< 8 ||| (m.toBitVec >>> 24 &&& 255#32)).signExtend 8).signExtend 32 : BitVec 32) = ((m.toBitVec >>> 24) <<< 24).sshiftRight 24 := by
    refine BitVec.eq_of_getLsbD_eq (fun i hi => ?_)
    rcases (show i = 0 ∨ i = 1 ∨ i = 2 ∨ i = 3 ∨ i = 4 ∨ i = 5 ∨ i = 6 ∨ i = 7 ∨ i = 8 ∨ i = 9 ∨ i = 10 ∨ i = 11 ∨ i = 12 ∨ i = 13 ∨ i = 14 ∨ i = 15 ∨ i = 16 ∨ i = 17 ∨ i = 18 ∨ i = 19 ∨ i = 20 ∨ i = 21 ∨ i = 22 ∨ i = 23 ∨ i = 24 ∨ i = 25 ∨ i = 26 ∨ i = 27 ∨ i = 28 ∨ i = 29 ∨ i = 30 ∨ i = 31 by omega) with rfl | rfl | rfl | rfl | rfl | rfl | rfl | rfl | rfl | rfl | rfl | rfl | rfl | rfl | rfl | rfl | rfl | rfl | rfl | rfl | rfl | rfl | rfl | rfl | rfl | rfl | rfl | rfl | rfl | rfl | rfl | rfl <;> simp [BitVec.getLsbD_sshiftRight, BitVec.getLsbD_signExtend, BitVec.getElem_sshiftRight, BitVec.getElem_signExtend, BitVec.msb_eq_getLsbD_last]
  exact Int32.toBitVec_inj.mp e
theorem br_bu24 (m : Int32) : (((0 : Int32) <<< ((8 : Int32) &&& 31)) ||| (((m.toUInt32 >>> ((24 : Int32).toUInt32 &&& Int32.toUInt32 31)).toInt32) &&& (255 : Int32))) = (((((m.toUInt32 >>> ((24 : Int32).toUInt32 &&& Int32.toUInt32 31)).toInt32) <<< ((24 : Int32) &&& 31)).toUInt32 >>> ((24 : Int32).toUInt32 &&& Int32.toUInt32 31)).toInt32) := by
  have e : ((0#32 <<< 8 ||| (m.toBitVec >>> 24 &&& 255#32)) : BitVec 32) = ((m.toBitVec >>> 24) <<< 24) >>> 24 := by
    refine BitVec.eq_of_getLsbD_eq (fun i hi => ?_)
    rcases (show i = 0 ∨ i = 1 ∨ i = 2 ∨ i = 3 ∨ i = 4 ∨ i = 5 ∨ i = 6 ∨ i = 7 ∨ i = 8 ∨ i = 9 ∨ i = 10 ∨ i = 11 ∨ i = 12 ∨ i = 13 ∨ i = 14 ∨ i = 15 ∨ i = 16 ∨ i = 17 ∨ i = 18 ∨ i = 19 ∨ i = 20 ∨ i = 21 ∨ i = 22 ∨ i = 23 ∨ i = 24 ∨ i = 25 ∨ i = 26 ∨ i = 27 ∨ i = 28 ∨ i = 29 ∨ i = 30 ∨ i = 31 by omega) with rfl | rfl | rfl | rfl | rfl | rfl | rfl | rfl | rfl | rfl | rfl | rfl | rfl | rfl | rfl | rfl | rfl | rfl | rfl | rfl | rfl | rfl | rfl | rfl | rfl | rfl | rfl | rfl | rfl | rfl | rfl | rfl <;> simp [BitVec.getLsbD_sshiftRight, BitVec.getLsbD_signExtend, BitVec.getElem_sshiftRight, BitVec.getElem_signExtend, BitVec.msb_eq_getLsbD_last]
  exact Int32.toBitVec_inj.mp e
theorem br_s1_0 (m v : Int32) : ((m &&& (((255 : Int32) <<< ((0 : Int32) &&& 31)) ^^^ (-1 : Int32))) ||| (((v >>> ((0 : Int32) &&& 31)) &&& (255 : Int32)) <<< ((0 : Int32) &&& 31))) = ((m &&& (((((-1 : Int32).toUInt32 >>> ((24 : Int32).toUInt32 &&& Int32.toUInt32 31)).toInt32) <<< ((0 : Int32) &&& 31)) ^^^ (-1 : Int32))) ||| ((v <<< ((0 : Int32) &&& 31)) &&& ((((-1 : Int32).toUInt32 >>> ((24 : Int32).toUInt32 &&& Int32.toUInt32 31)).toInt32) <<< ((0 : Int32) &&& 31)))) := by
  have e : (((m.toBitVec &&& ((255#32 <<< 0) ^^^ 4294967295#32)) ||| ((v.toBitVec.sshiftRight 0 &&& 255#32) <<< 0)) : BitVec 32) = (m.toBitVec &&& (((4294967295#32 >>> 24) <<< 0) ^^^ 4294967295#32)) ||| ((v.toBitVec <<< 0) &&& ((4294967295#32 >>> 24) <<< 0)) := by
    refine BitVec.eq_of_getLsbD_eq (fun i hi => ?_)
    rcases (show i = 0 ∨ i = 1 ∨ i = 2 ∨ i = 3 ∨ i = 4 ∨ i = 5 ∨ i = 6 ∨ i = 7 ∨ i = 8 ∨ i = 9 ∨ i = 10 ∨ i = 11 ∨ i = 12 ∨ i = 13 ∨ i = 14 ∨ i = 15 ∨ i = 16 ∨ i = 17 ∨ i = 18 ∨ i = 19 ∨ i = 20 ∨ i = 21 ∨ i = 22 ∨ i = 23 ∨ i = 24 ∨ i = 25 ∨ i = 26 ∨ i = 27 ∨ i = 28 ∨ i = 29 ∨ i = 30 ∨ i = 31 by omega) with rfl | rfl | rfl | rfl | rfl | rfl | rfl | rfl | rfl | rfl | rfl | rfl | rfl | rfl | rfl | rfl | rfl | rfl | rfl | rfl | rfl | rfl | rfl | rfl | rfl | rfl | rfl | rfl | rfl | rfl | rfl | rfl <;> simp [BitVec.getLsbD_sshiftRight, BitVec.getLsbD_signExtend, BitVec.getElem_sshiftRight, BitVec.getElem_signExtend, BitVec.msb_eq_getLsbD_last]
  exact Int32.toBitVec_inj.mp e
theorem br_s1_8 (m v : Int32) : ((m &&& (((255 : Int32) <<< ((8 : Int32) &&& 31)) ^^^ (-1 : Int32))) ||| (((v >>> ((0 : Int32) &&& 31)) &&& (255 : Int32)) <<< ((8 : Int32) &&& 31))) = ((m &&& (((((-1 : Int32).toUInt32 >>> ((24 : Int32).toUInt32 &&& Int32.toUInt32 31)).toInt32) <<< ((8 : Int32) &&& 31)) ^^^ (-1 : Int32))) ||| ((v <<< ((8 : Int32) &&& 31)) &&& ((((-1 : Int32).toUInt32 >>> ((24 : Int32).toUInt32 &&& Int32.toUInt32 31)).toInt32) <<< ((8 : Int32) &&& 31)))) := by
  have e : (((m.toBitVec &&& ((255#32 <<< 8) ^^^ 4294967295#32)) ||| ((v.toBitVec.sshiftRight 0 &&& 255#32) <<< 8)) : BitVec 32) = (m.toBitVec &&& (((4294967295#32 >>> 24) <<< 8) ^^^ 4294967295#32)) ||| ((v.toBitVec <<< 8) &&& ((4294967295#32 >>> 24) <<< 8)) := by
    refine BitVec.eq_of_getLsbD_eq (fun i hi => ?_)
    rcases (show i = 0 ∨ i = 1 ∨ i = 2 ∨ i = 3 ∨ i = 4 ∨ i = 5 ∨ i = 6 ∨ i = 7 ∨ i = 8 ∨ i = 9 ∨ i = 10 ∨ i = 11 ∨ i = 12 ∨ i = 13 ∨ i = 14 ∨ i = 15 ∨ i = 16 ∨ i = 17 ∨ i = 18 ∨ i = 19 ∨ i = 20 ∨ i = 21 ∨ i = 22 ∨ i = 23 ∨ i = 24 ∨ i = 25 ∨ i = 26 ∨ i = 27 ∨ i = 28 ∨ i = 29 ∨ i = 30 ∨ i = 31 by omega) with rfl | rfl | rfl | rfl | rfl | rfl | rfl | rfl | rfl | rfl | rfl | rfl | rfl | rfl | rfl | rfl | rfl | rfl | rfl | rfl | rfl | rfl | rfl | rfl | rfl | rfl | rfl | rfl | rfl | rfl | rfl | rfl <;> simp [BitVec.getLsbD_sshiftRight, BitVec.getLsbD_signExtend, BitVec.getElem_sshiftRight, BitVec.getElem_signExtend, BitVec.msb_eq_getLsbD_last]
  exact Int32.toBitVec_inj.mp e
theorem br_s1_16 (m v : Int32) : ((m &&& (((255 : Int32) <<< ((16 : Int32) &&& 31)) ^^^ (-1 : Int32))) ||| (((v >>> ((0 : Int32) &&& 31)) &&& (255 : Int32)) <<< ((16 : Int32) &&& 31))) = ((m &&& (((((-1 : Int32).toUInt32 >>> ((24 : Int32).toUInt32 &&& Int32.toUInt32 31)).toInt32) <<< ((16 : Int32) &&& 31)) ^^^ (-1 : Int32))) ||| ((v <<< ((16 : Int32) &&& 31)) &&& ((((-1 : Int32).toUInt32 >>> ((24 : Int32).toUInt32 &&& Int32.toUInt32 31)).toInt32) <<< ((16 : Int32) &&& 31)))) := by
  have e : (((m.toBitVec &&& ((255#32 <<< 16) ^^^ 4294967295#32)) ||| ((v.toBitVec.sshiftRight 0 &&& 255#32) <<< 16)) : BitVec 32) = (m.toBitVec &&& (((4294967295#32 >>> 24) <<< 16) ^^^ 4294967295#32)) ||| ((v.toBitVec <<< 16) &&& ((4294967295#32 >>> 24) <<< 16)) := by
    refine BitVec.eq_of_getLsbD_eq (fun i hi => ?_)
    rcases (show i = 0 ∨ i = 1 ∨ i = 2 ∨ i = 3 ∨ i = 4 ∨ i = 5 ∨ i = 6 ∨ i = 7 ∨ i = 8 ∨ i = 9 ∨ i = 10 ∨ i = 11 ∨ i = 12 ∨ i = 13 ∨ i = 14 ∨ i = 15 ∨ i = 16 ∨ i = 17 ∨ i = 18 ∨ i = 19 ∨ i = 20 ∨ i = 21 ∨ i = 22 ∨ i = 23 ∨ i = 24 ∨ i = 25 ∨ i = 26 ∨ i = 27 ∨ i = 28 ∨ i = 29 ∨ i = 30 ∨ i = 31 by omega) with rfl | rfl | rfl | rfl | rfl | rfl | rfl | rfl | rfl | rfl | rfl | rfl | rfl | rfl | rfl | rfl | rfl | rfl | rfl | rfl | rfl | rfl | rfl | rfl | rfl | rfl | rfl | rfl | rfl | rfl | rfl | rfl <;> simp [BitVec.getLsbD_sshiftRight, BitVec.getLsbD_signExtend, BitVec.getElem_sshiftRight, BitVec.getElem_signExtend, BitVec.msb_eq_getLsbD_last]
  exact Int32.toBitVec_inj.mp e
theorem br_s1_24 (m v : Int32) : ((m &&& (((255 : Int32) <<< ((24 : Int32) &&& 31)) ^^^ (-1 : Int32))) ||| (((v >>> ((0 : Int32) &&& 31)) &&& (255 : Int32)) <<< ((24 : Int32) &&& 31))) = ((m &&& (((((-1 : Int32).toUInt32 >>> ((24 : Int32).toUInt32 &&& Int32.toUInt32 31)).toInt32) <<< ((24 : Int32) &&& 31)) ^^^ (-1 : Int32))) ||| ((v <<< ((24 : Int32) &&& 31)) &&& ((((-1 : Int32).toUInt32 >>> ((24 : Int32).toUInt32 &&& Int32.toUInt32 31)).toInt32) <<< ((24 : Int32) &&& 31)))) := by
  have e : (((m.toBitVec &&& ((255#32 <<< 24) ^^^ 4294967295#32)) ||| ((v.toBitVec.sshiftRight 0 &&& 255#32) <<< 24)) : BitVec 32) = (m.toBitVec &&& (((4294967295#32 >>> 24) <<< 24) ^^^ 4294967295#32)) ||| ((v.toBitVec <<< 24) &&& ((4294967295#32 >>> 24) <<< 24)) := by
    refine BitVec.eq_of_getLsbD_eq (fun i hi => ?_)
    rcases (show i = 0 ∨ i = 1 ∨ i = 2 ∨ i = 3 ∨ i = 4 ∨ i = 5 ∨ i = 6 ∨ i = 7 ∨ i = 8 ∨ i = 9 ∨ i = 10 ∨ i = 11 ∨ i = 12 ∨ i = 13 ∨ i = 14 ∨ i = 15 ∨ i = 16 ∨ i = 17 ∨ i = 18 ∨ i = 19 ∨ i = 20 ∨ i = 21 ∨ i = 22 ∨ i = 23 ∨ i = 24 ∨ i = 25 ∨ i = 26 ∨ i = 27 ∨ i = 28 ∨ i = 29 ∨ i = 30 ∨ i = 31 by omega) with rfl | rfl | rfl | rfl | rfl | rfl | rfl | rfl | rfl | rfl | rfl | rfl | rfl | rfl | rfl | rfl | rfl | rfl | rfl | rfl | rfl | rfl | rfl | rfl | rfl | rfl | rfl | rfl | rfl | rfl | rfl | rfl <;> simp [BitVec.getLsbD_sshiftRight, BitVec.getLsbD_signExtend, BitVec.getElem_sshiftRight, BitVec.getElem_signExtend, BitVec.msb_eq_getLsbD_last]
  exact Int32.toBitVec_inj.mp e
theorem br_s2_0 (m v : Int32) : ((((m &&& (((255 : Int32) <<< ((0 : Int32) &&& 31)) ^^^ (-1 : Int32))) ||| (((v >>> ((0 : Int32) &&& 31)) &&& (255 : Int32)) <<< ((0 : Int32) &&& 31))) &&& (((255 : Int32) <<< ((8 : Int32) &&& 31)) ^^^ (-1 : Int32))) ||| (((v >>> ((8 : Int32) &&& 31)) &&& (255 : Int32)) <<< ((8 : Int32) &&& 31))) = ((m &&& (((((-1 : Int32).toUInt32 >>> ((16 : Int32).toUInt32 &&& Int32.toUInt32 31)).toInt32) <<< ((0 : Int32) &&& 31)) ^^^ (-1 : Int32))) ||| ((v <<< ((0 : Int32) &&& 31)) &&& ((((-1 : Int32).toUInt32 >>> ((16 : Int32).toUInt32 &&& Int32.toUInt32 31)).toInt32) <<< ((0 : Int32) &&& 31)))) := by
  have e : (((((m.toBitVec &&& ((255#32 <<< 0) ^^^ 4294967295#32)) ||| ((v.toBitVec.sshiftRight 0 &&& 255#32) <<< 0)) &&& ((255#32 <<< 8) ^^^ 4294967295#32)) ||| ((v.toBitVec.sshiftRight 8 &&& 255#32) <<< 8)) : BitVec 32) = (m.toBitVec &&& (((4294967295#32 >>> 16) <<< 0) ^^^ 4294967295#32)) ||| ((v.toBitVec <<< 0) &&& ((4294967295#32 >>> 16) <<< 0)) := by
    refine BitVec.eq_of_getLsbD_eq (fun i hi => ?_)
    rcases (show i = 0 ∨ i = 1 ∨ i = 2 ∨ i = 3 ∨ i = 4 ∨ i = 5 ∨ i = 6 ∨ i = 7 ∨ i = 8 ∨ i = 9 ∨ i = 10 ∨ i = 11 ∨ i = 12 ∨ i = 13 ∨ i = 14 ∨ i = 15 ∨ i = 16 ∨ i = 17 ∨ i = 18 ∨ i = 19 ∨ i = 20 ∨ i = 21 ∨ i = 22 ∨ i = 23 ∨ i = 24 ∨ i = 25 ∨ i = 26 ∨ i = 27 ∨ i = 28 ∨ i = 29 ∨ i = 30 ∨ i = 31 by omega) with rfl | rfl | rfl | rfl | rfl | rfl | rfl | rfl | rfl | rfl | rfl | rfl | rfl | rfl | rfl | rfl | rfl | rfl | rfl | rfl | rfl | rfl | rfl | rfl | rfl | rfl | rfl | rfl | rfl | rfl | rfl | rfl <;> simp [BitVec.getLsbD_sshiftRight, BitVec.getLsbD_signExtend, BitVec.getElem_sshiftRight, BitVec.getElem_signExtend, BitVec.msb_eq_getLsbD_last]
  exact Int32.toBitVec_inj.mp e
theorem br_s2_16 (m v : Int32) : ((((m &&& (((255 : Int32) <<< ((16 : Int32) &&& 31)) ^^^ (-1 : Int32))) ||| (((v >>> ((0 : Int32) &&& 31)) &&& (255 : Int32)) <<< ((16 : Int32) &&& 31))) &&& (((255 : Int32) <<< ((24 : Int32) &&& 31)) ^^^ (-1 : Int32))) ||| (((v >>> ((8 : Int32) &&& 31)) &&& (255 : Int32)) <<< ((24 : Int32) &&& 31))) = ((m &&& (((((-1 : Int32).toUInt32 >>> ((16 : Int32).toUInt32 &&& Int32.toUInt32 31)).toInt32) <<< ((16 : Int32) &&& 31)) ^^^ (-1 : Int32))) ||| ((v <<< ((16 : Int32) &&& 31)) &&& ((((-1 : Int32).toUInt32 >>> ((16 : Int32).toUInt32 &&& Int32.toUInt32 31)).toInt32) <<< ((16 : Int32) &&& 31)))) := by
  have e : (((((m.toBitVec &&& ((255#32 <<< 16) ^^^ 4294967295#32)) ||| ((v.toBitVec.sshiftRight 0 &&& 255#32) <<< 16)) &&& ((255#32 <<< 24) ^^^ 4294967295#32)) ||| ((v.toBitVec.sshiftRight 8 &&& 255#32) <<< 24)) : BitVec 32) = (m.toBitVec &&& (((4294967295#32 >>> 16) <<< 16) ^^^ 4294967295#32)) ||| ((v.toBitVec <<< 16) &&& ((4294967295#32 >>> 16) <<< 16)) := by
    refine BitVec.eq_of_getLsbD_eq (fun i hi => ?_)
    rcases (show i = 0 ∨ i = 1 ∨ i = 2 ∨ i = 3 ∨ i = 4 ∨ i = 5 ∨ i = 6 ∨ i = 7 ∨ i = 8 ∨ i = 9 ∨ i = 10 ∨ i = 11 ∨ i = 12 ∨ i = 13 ∨ i = 14 ∨ i = 15 ∨ i = 16 ∨ i = 17 ∨ i = 18 ∨ i = 19 ∨ i = 20 ∨ i = 21 ∨ i = 22 ∨ i = 23 ∨ i = 24 ∨ i = 25 ∨ i = 26 ∨ i = 27 ∨ i = 28 ∨ i = 29 ∨ i = 30 ∨ i = 31 by omega) with rfl | rfl | rfl | rfl | rfl | rfl | rfl | rfl | rfl | rfl | rfl | rfl | rfl | rfl | rfl | rfl | rfl | rfl | rfl | rfl | rfl | rfl | rfl | rfl | rfl | rfl | rfl | rfl | rfl | rfl | rfl | rfl <;> simp [BitVec.getLsbD_sshiftRight, BitVec.getLsbD_signExtend, BitVec.getElem_sshiftRight, BitVec.getElem_signExtend, BitVec.msb_eq_getLsbD_last]
  exact Int32.toBitVec_inj.mp e
theorem br_s4_0 (m v : Int32) : ((((((((m &&& (((255 : Int32) <<< ((0 : Int32) &&& 31)) ^^^ (-1 : Int32))) ||| (((v >>> ((0 : Int32) &&& 31)) &&& (255 : Int32)) <<< ((0 : Int32) &&& 31))) &&& (((255 : Int32) <<< ((8 : Int32) &&& 31)) ^^^ (-1 : Int32))) ||| (((v >>> ((8 : Int32) &&& 31)) &&& (255 : Int32)) <<< ((8 : Int32) &&& 31))) &&& (((255 : Int32) <<< ((16 : Int32) &&& 31)) ^^^ (-1 : Int32))) ||| (((v >>> ((16 : Int32) &&& 31)) &&& (255 : Int32)) <<< ((16 : Int32) &&& 31))) &&& (((255 : Int32) <<< ((24 : Int32) &&& 31)) ^^^ (-1 : Int32))) ||| (((v >>> ((24 : Int32) &&& 31)) &&& (255 : Int32)) <<< ((24 : Int32) &&& 31))) = ((m &&& (((((-1 : Int32).toUInt32 >>> ((0 : Int32).toUInt32 &&& Int32.toUInt32 31)).toInt32) <<< ((0 : Int32) &&& 31)) ^^^ (-1 : Int32))) ||| ((v <<< ((0 : Int32) &&& 31)) &&& ((((-1 : Int32).toUInt32 >>> ((0 : Int32).toUInt32 &&& Int32.toUInt32 31)).toInt32) <<< ((0 : Int32) &&& 31)))) := by
  have e : (((((((((m.toBitVec &&& ((255#32 <<< 0) ^^^ 4294967295#32)) ||| ((v.toBitVec.sshiftRight 0 &&& 255#32) <<< 0)) &&& ((255#32 <<< 8) ^^^ 4294967295#32)) ||| ((v.toBitVec.sshiftRight 8 &&& 255#32) <<< 8)) &&& ((255#32 <<< 16) ^^^ 4294967295#32)) ||| ((v.toBitVec.sshiftRight 16 &&& 255#32) <<< 16)) &&& ((255#32 <<< 24) ^^^ 4294967295#32)) ||| ((v.toBitVec.sshiftRight 24 &&& 255#32) <<< 24)) : BitVec 32) = (m.toBitVec &&& (((4294967295#32 >>> 0) <<< 0) ^^^ 4294967295#32)) ||| ((v.toBitVec <<< 0) &&& ((4294967295#32 >>> 0) <<< 0)) := by
    refine BitVec.eq_of_getLsbD_eq (fun i hi => ?_)
    rcases (show i = 0 ∨ i = 1 ∨ i = 2 ∨ i = 3 ∨ i = 4 ∨ i = 5 ∨ i = 6 ∨ i = 7 ∨ i = 8 ∨ i = 9 ∨ i = 10 ∨ i = 11 ∨ i = 12 ∨ i = 13 ∨ i = 14 ∨ i = 15 ∨ i = 16 ∨ i = 17 ∨ i = 18 ∨ i = 19 ∨ i = 20 ∨ i = 21 ∨ i = 22 ∨ i = 23 ∨ i = 24 ∨ i = 25 ∨ i = 26 ∨ i = 27 ∨ i = 28 ∨ i = 29 ∨ i = 30 ∨ i = 31 by omega) with rfl | rfl | rfl | rfl | rfl | rfl | rfl | rfl | rfl | rfl | rfl | rfl | rfl | rfl | rfl | rfl | rfl | rfl | rfl | rfl | rfl | rfl | rfl | rfl | rfl | rfl | rfl | rfl | rfl | rfl | rfl | rfl <;> simp [BitVec.getLsbD_sshiftRight, BitVec.getLsbD_signExtend, BitVec.getElem_sshiftRight, BitVec.getElem_signExtend, BitVec.msb_eq_getLsbD_last]
  exact Int32.toBitVec_inj.mp e
theorem br_u32 (x : Int32) : (x.toInt64 &&& (4294967295 : Int64)).toInt = x.toInt % 4294967296 := by
  have h : (x.toInt64 &&& (4294967295 : Int64)).toBitVec.toNat = x.toBitVec.toNat := by
    have e : (x.toInt64 &&& (4294967295 : Int64)).toBitVec = x.toBitVec.setWidth 64 := by
      refine BitVec.eq_of_getLsbD_eq (fun i hi => ?_)
      show ((x.toBitVec.signExtend 64) &&& 4294967295#64).getLsbD i = (x.toBitVec.setWidth 64).getLsbD i
      rcases Nat.lt_or_ge i 32 with q | q
      · have e2 : (4294967295#64).getLsbD i = true := by
          rcases (show i = 0 ∨ i = 1 ∨ i = 2 ∨ i = 3 ∨ i = 4 ∨ i = 5 ∨ i = 6 ∨ i = 7 ∨ i = 8 ∨ i = 9 ∨ i = 10 ∨ i = 11 ∨ i = 12 ∨ i = 13 ∨ i = 14 ∨ i = 15 ∨ i = 16 ∨ i = 17 ∨ i = 18 ∨ i = 19 ∨ i = 20 ∨ i = 21 ∨ i = 22 ∨ i = 23 ∨ i = 24 ∨ i = 25 ∨ i = 26 ∨ i = 27 ∨ i = 28 ∨ i = 29 ∨ i = 30 ∨ i = 31 by omega) with rfl | rfl | rfl | rfl | rfl | rfl | rfl | rfl | rfl | rfl | rfl | rfl | rfl | rfl | rfl | rfl | rfl | rfl | rfl | rfl | rfl | rfl | rfl | rfl | rfl | rfl | rfl | rfl | rfl | rfl | rfl | rfl <;> rfl
        rw [BitVec.getLsbD_and, e2, Bool.and_true, BitVec.getLsbD_signExtend, BitVec.getLsbD_setWidth, if_pos q]
      · have e2 : (4294967295#64).getLsbD i = false := by
          rcases (show i = 32 ∨ i = 33 ∨ i = 34 ∨ i = 35 ∨ i = 36 ∨ i = 37 ∨ i = 38 ∨ i = 39 ∨ i = 40 ∨ i = 41 ∨ i = 42 ∨ i = 43 ∨ i = 44 ∨ i = 45 ∨ i = 46 ∨ i = 47 ∨ i = 48 ∨ i = 49 ∨ i = 50 ∨ i = 51 ∨ i = 52 ∨ i = 53 ∨ i = 54 ∨ i = 55 ∨ i = 56 ∨ i = 57 ∨ i = 58 ∨ i = 59 ∨ i = 60 ∨ i = 61 ∨ i = 62 ∨ i = 63 by omega) with rfl | rfl | rfl | rfl | rfl | rfl | rfl | rfl | rfl | rfl | rfl | rfl | rfl | rfl | rfl | rfl | rfl | rfl | rfl | rfl | rfl | rfl | rfl | rfl | rfl | rfl | rfl | rfl | rfl | rfl | rfl | rfl <;> rfl
        simp [e2, BitVec.getLsbD_of_ge _ _ q]
    rw [e, BitVec.toNat_setWidth]
    have := x.toBitVec.isLt
    omega
  have h1 : (x.toInt64 &&& (4294967295 : Int64)).toInt = ((x.toInt64 &&& (4294967295 : Int64)).toBitVec.toNat : Int) := by
    show (x.toInt64 &&& (4294967295 : Int64)).toBitVec.toInt = _
    rw [BitVec.toInt_eq_toNat_cond, if_pos]
    have := x.toBitVec.isLt
    omega
  have h2 : x.toInt = x.toBitVec.toInt := rfl
  rw [h1, h, h2, BitVec.toInt_eq_toNat_cond]
  have := x.toBitVec.isLt
  split <;> omega
theorem br_min (x : Int32) : (x + (-2147483648 : Int32)).toInt = x.toInt % 4294967296 - 2147483648 := by
  obtain ⟨k, h1, h2, h3⟩ := i_add x (-2147483648)
  have e : (-2147483648 : Int32).toInt = -2147483648 := rfl
  have := i_rng x
  omega
theorem br_bel (a b : Int32) : (0 : Int32) ≤ lg_cmp (a.toInt64 &&& (4294967295 : Int64)) (b.toInt64 &&& (4294967295 : Int64)) ↔ b + (-2147483648 : Int32) ≤ a + (-2147483648 : Int32) := by
  rw [lg_cmp_ge, Int64.le_iff_toInt_le, i_le, br_u32, br_u32, br_min, br_min]
  omega
theorem br_dneg (a : Int32) : a / (-1 : Int32) = -a := by
  refine i_eq.mpr ?_
  have e : (-1 : Int32).toInt = -1 := rfl
  rw [Int32.toInt_div, e, Int32.toInt_neg]
  congr 1
  rw [Int.tdiv_neg, Int.tdiv_one]
theorem br_rneg (a : Int32) : a - a / (-1 : Int32) * (-1 : Int32) = 0 := by
  rw [br_dneg]
  have e : -a * (-1 : Int32) = a := by
    have := Int32.neg_mul_neg a 1
    rw [Int32.mul_one] at this
    exact this
  rw [e, Int32.sub_self]
theorem br_8 (x : Int32) : (x &&& (7 : Int32)) = 0 ∨ (x &&& (7 : Int32)) = 1 ∨ (x &&& (7 : Int32)) = 2 ∨ (x &&& (7 : Int32)) = 3 ∨ (x &&& (7 : Int32)) = 4 ∨ (x &&& (7 : Int32)) = 5 ∨ (x &&& (7 : Int32)) = 6 ∨ (x &&& (7 : Int32)) = 7 := by
  have h := i_and x (m := 7) 3 (by decide) (by decide)
  generalize (x &&& (7 : Int32)) = y at h ⊢
  rcases (show y.toInt = 0 ∨ y.toInt = 1 ∨ y.toInt = 2 ∨ y.toInt = 3 ∨ y.toInt = 4 ∨ y.toInt = 5 ∨ y.toInt = 6 ∨ y.toInt = 7 by omega) with e | e | e | e | e | e | e | e
  · exact .inl (i_eq.mpr e)
  · exact .inr (.inl (i_eq.mpr e))
  · exact .inr (.inr (.inl (i_eq.mpr e)))
  · exact .inr (.inr (.inr (.inl (i_eq.mpr e))))
  · exact .inr (.inr (.inr (.inr (.inl (i_eq.mpr e)))))
  · exact .inr (.inr (.inr (.inr (.inr (.inl (i_eq.mpr e))))))
  · exact .inr (.inr (.inr (.inr (.inr (.inr (.inl (i_eq.mpr e)))))))
  · exact .inr (.inr (.inr (.inr (.inr (.inr (.inr (i_eq.mpr e)))))))
theorem br_and3 (x : Int32) : (x &&& (3 : Int32)).toInt = x.toInt % 4 := by
  have h : (x &&& (3 : Int32)).toBitVec.toNat = x.toBitVec.toNat % 4 := by
    show (x.toBitVec &&& 3#32).toNat = _
    rw [BitVec.toNat_and]
    exact Nat.and_two_pow_sub_one_eq_mod x.toBitVec.toNat 2
  have h1 : (x &&& (3 : Int32)).toInt = (x &&& (3 : Int32)).toBitVec.toInt := rfl
  have h2 : x.toInt = x.toBitVec.toInt := rfl
  rw [h1, h2, BitVec.toInt_eq_toNat_cond, BitVec.toInt_eq_toNat_cond, h]
  have := x.toBitVec.isLt
  split <;> split <;> omega
