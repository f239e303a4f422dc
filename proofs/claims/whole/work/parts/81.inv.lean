def yOk (u : Int32) : Prop := u.toInt = 10 ∨ (32 ≤ u.toInt ∧ u.toInt ≤ 126)
/-- the characters collected -/
def yW (len : Int32) (un : Nat → Int32) (sz : Int32) (mu : Nat → Int32) : Prop := len = sz ∧ 0 ≤ sz.toInt ∧ sz.toInt ≤ 600 ∧ ∀ k : Nat, (k : Int) < sz.toInt → un k = mu k ∧ yOk (mu k)
/-- letters in base 27 -/
def yCode (L : Nat → Int32) : Nat → Int
  | 0 => 0
  | n + 1 => 27 * yCode L n + ((L n).toInt - 64)
/-- one family: what the class keeps, what the other keeps -/
def yF1 (C : Int32) (K : Nat) (V L : Nat → Int32) (kind : Int32) (mv : Nat → Int64) (name : Int64) : Prop :=
  K < 5 ∧ kind.toInt = K ∧ (∀ s : Nat, s < 12 → (mv s).toInt = (V s).toInt) ∧ (∀ s : Nat, 12 ≤ s → s < 18 → (mv (3 * (s - 8))).toInt = (V s).toInt) ∧ (∀ s : Nat, s < 18 → 0 ≤ (V s).toInt ∧ (V s).toInt ≤ 10000000) ∧ 1 ≤ (V 12).toInt ∧ ((V 16).toInt = 0 ∨ 10000 ≤ (V 16).toInt) ∧ ((V 17).toInt = 0 ∨ 10000 ≤ (V 17).toInt) ∧ (V 17).toInt % 2 = 0 ∧
  1 ≤ C.toInt ∧ C.toInt ≤ 4 ∧ (∀ i : Nat, (i : Int) < C.toInt → 65 ≤ (L i).toInt ∧ (L i).toInt ≤ 90) ∧ name.toInt = yCode L C.toInt.toNat
def yFam (n mn : Int32) (fC : Nat → Int32) (fK : Nat → Nat) (fV fL : Nat → Nat → Int32) (kinds : Nat → Int32) (values names : Nat → Int64) : Prop :=
  n = mn ∧ 0 ≤ n.toInt ∧ n.toInt ≤ 8 ∧ ∀ f : Nat, (f : Int) < n.toInt → yF1 (fC f) (fK f) (fV f) (fL f) (kinds f) (fun k => values (30 * f + k)) (names f)
/-- bits of twelve -/
def yPow (w : Nat) : Int32 := ([1, 2, 4, 8, 16, 32, 64, 128, 256, 512, 1024, 2048] : List Int32).getD w 0
def yBit (x : Int32) (w : Nat) : Prop := x &&& yPow w = yPow w
def ySp (tb eb : Int32) (lo hi ml mh : Nat → Int64) (mt : Nat → Int32) : Prop :=
  ∀ w : Nat, w < 12 → (mt w = 0 ∨ mt w = 1) ∧ (yBit tb w ↔ mt w = 1) ∧ (yBit eb w ↔ mt w = 1 ∧ ml w = mh w) ∧ (mt w = 1 → lo w = ml w ∧ hi w = mh w ∧ 0 ≤ (ml w).toInt ∧ (ml w).toInt ≤ (mh w).toInt ∧ (mh w).toInt ≤ 100000000)
def yL (lo ml : Nat → Int32) : Prop := ∀ k : Nat, k < 65 → lo k = ml k ∧ (ml k = 0 ∨ ml k = 1)
def yCnt (m : Nat → Int32) : Nat → Int
  | 0 => 0
  | n + 1 => yCnt m n + (m (n + 1)).toInt
def yH (cnt : Int32) (isT : Nat → Int32) (bx : Nat → Int64) (isM : Nat → Int32) (hd : Nat → Int64) : Prop :=
  cnt.toInt = yCnt isM 80 ∧ ∀ k : Nat, 1 ≤ k → k ≤ 80 → isT k = isM k ∧ (isM k = 0 ∨ isM k = 1) ∧ (isM k = 1 → ∀ i : Nat, i < 4 → bx (4 * k + i) = hd (4 * k - 4 + i))
/-- how a number is written -/
def yScale : Nat → Nat → Nat → Nat
  | 0, _, s => s
  | n + 1, r, s => if 10 ≤ r / s then yScale n r (10 * s) else s
def yEmit : Nat → Nat → Nat → List Int32
  | 0, _, _ => []
  | n + 1, r, s => if s = 0 then [] else Int32.ofNat (r / s % 10 + 48) :: yEmit n r (s / 10)
def yNum (v : Int) : List Int32 := (if v < 0 then [45] else []) ++ yEmit 20 v.natAbs (yScale 18 v.natAbs 1)
def yLet (L : Nat → Int32) (n : Nat) : List Int32 := (List.range n).map L
def yName (C : Int32) (L : Nat → Int32) (pads oh dens : Int) : List Int32 :=
  yLet L C.toInt.toNat ++ yNum pads ++ [88] ++ yNum (oh / 1000) ++ [if dens = 0 then 76 else if dens = 1 then 78 else 77]
def yPadT (pad : Nat → Int64) (k : Nat) : List Int32 :=
  yNum (pad (7 * k)).toInt ++ [32] ++ yNum (pad (7 * k + 1)).toInt ++ [32] ++ yNum (pad (7 * k + 2)).toInt ++ [32] ++ yNum (pad (7 * k + 3)).toInt ++ [32] ++ yNum (pad (7 * k + 4)).toInt ++ [32] ++ yNum (pad (7 * k + 5)).toInt ++ [32] ++ yNum (pad (7 * k + 6)).toInt ++ [10]
def yPadsT (pad : Nat → Int64) : Nat → List Int32
  | 0 => []
  | n + 1 => yPadsT pad n ++ yPadT pad n
def yCourtT (c : Nat → Int64) : List Int32 := [99, 111, 117, 114, 116] ++ [32] ++ yNum (c 0).toInt ++ [32] ++ yNum (c 1).toInt ++ [32] ++ yNum (c 2).toInt ++ [32] ++ yNum (c 3).toInt ++ [10]
def yText (N : List Int32) (pad court : Nat → Int64) (n : Nat) : List Int32 := N ++ [10] ++ yPadsT pad n ++ yCourtT court
def yPads (pad : Nat → Int64) (n : Int) : Prop :=
  (∀ k : Nat, (k : Int) < n → 1 ≤ (pad (7 * k)).toInt ∧ (pad (7 * k)).toInt ≤ 65 ∧ -2000000000 ≤ (pad (7 * k + 1)).toInt ∧ (pad (7 * k + 1)).toInt ≤ 2000000000 ∧ -2000000000 ≤ (pad (7 * k + 2)).toInt ∧ (pad (7 * k + 2)).toInt ≤ 2000000000 ∧ 1 ≤ (pad (7 * k + 3)).toInt ∧ (pad (7 * k + 3)).toInt ≤ 200000000 ∧ 1 ≤ (pad (7 * k + 4)).toInt ∧ (pad (7 * k + 4)).toInt ≤ 200000000 ∧ (pad (7 * k + 5) = 0 ∨ pad (7 * k + 5) = 1) ∧ 0 ≤ (pad (7 * k + 6)).toInt ∧ (pad (7 * k + 6)).toInt ≤ 200000000) ∧
  ∀ k k' : Nat, (k : Int) < n → (k' : Int) < n → pad (7 * k) = pad (7 * k') → k = k'
def yIs (len : Int32) (u : Nat → Int32) (T : List Int32) : Prop := len.toInt = T.length ∧ ∀ k : Nat, k < T.length → u k = T.getD k 0
def yTx (N T : List Int32) (titleSize written : Int32) (title out : Nat → Int32) (isWritten nameLength lineLen : Int32) (lineU : Nat → Int32) : Prop :=
  T.length ≤ 4096 ∧ yIs titleSize title N ∧ yIs written out T ∧ (isWritten = 0 ∨ isWritten = 1 ∧ nameLength.toInt = N.length ∧ yIs lineLen lineU T)
/-- the footprint at hand -/
def yP (fams : Int32) (fC : Nat → Int32) (fV fL : Nat → Nat → Int32) (pj : Nat) (atHand count thermal density : Int32) (outerHigh : Int64) (nameLength isWritten : Int32) (cells yard : Nat → Int64) (lineLen : Int32) (lineU : Nat → Int32) (mAt mFam mDens pads hasTh titleSize written : Int32) (paste0 : Int64) (pad court : Nat → Int64) (title out : Nat → Int32) : Prop :=
  atHand = mAt ∧ (mAt = 0 ∨ mAt = 1 ∧ (pj : Int) < fams.toInt ∧ mFam.toInt = pj ∧ density = mDens ∧ 0 ≤ mDens.toInt ∧ mDens.toInt ≤ 2 ∧ count = pads ∧ 1 ≤ pads.toInt ∧ pads.toInt ≤ 65 ∧ (∀ k : Nat, (k : Int) < 7 * pads.toInt → cells k = pad k) ∧ (∀ k : Nat, k < 4 → yard k = court k) ∧ (hasTh = 0 ∧ thermal = -1 ∨ hasTh = 1 ∧ thermal.toInt = pads.toInt - 1) ∧ paste0.toInt = (fV pj 14).toInt ∧ yPads pad pads.toInt ∧ yTx (yName (fC pj) (fL pj) pads.toInt outerHigh.toInt mDens.toInt) (yText (yName (fC pj) (fL pj) pads.toInt outerHigh.toInt mDens.toInt) pad court pads.toInt.toNat) titleSize written title out isWritten nameLength lineLen lineU ∧ 0 ≤ outerHigh.toInt ∧ outerHigh.toInt ≤ 100000000 ∧ ∀ k : Nat, k < 4 → -4000000000 ≤ (court k).toInt ∧ (court k).toInt ≤ 4000000000)
def zInv (v_p1_familyCount : Int32) (v_p1_reader_toldKeys : Int32) (v_p1_reader_words_length : Int32) (v_p1_reader_words_start : Int32) (v_p1_reader_words_end : Int32) (v_p1_reader_words_place : Int32) (v_p1_reader_words_units : Nat → Int32) (v_p1_handMade_count : Int32) (v_p1_handMade_isThere : Nat → Int32) (v_p1_handMade_boxes : Nat → Int64) (v_p1_maker_rounding : Int64) (v_p1_maker_toe : Int64) (v_p1_maker_heel : Int64) (v_p1_maker_side : Int64) (v_p1_maker_pitch : Int64) (v_p1_maker_outer : Int64) (v_p1_maker_inner : Int64) (v_p1_maker_across : Int64) (v_p1_maker_hole : Int64) (v_p1_maker_spans_toldBits : Int32) (v_p1_maker_spans_exactBits : Int32) (v_p1_maker_spans_lows : Nat → Int64) (v_p1_maker_spans_highs : Nat → Int64) (v_p1_maker_leftOut : Nat → Int32) (v_p1_maker_print_atHand : Int32) (v_p1_maker_print_count : Int32) (v_p1_maker_print_thermal : Int32) (v_p1_maker_print_density : Int32) (v_p1_maker_print_outerHigh : Int64) (v_p1_maker_print_pasteLeft : Int64) (v_p1_maker_print_pasteLow : Int64) (v_p1_maker_print_nameLength : Int32) (v_p1_maker_print_isWritten : Int32) (v_p1_maker_print_cells : Nat → Int64) (v_p1_maker_print_yard : Nat → Int64) (v_p1_maker_print_columns_parts : Int64) (v_p1_maker_print_columns_size : Int64) (v_p1_maker_print_columns_ahead : Int64) (v_p1_maker_print_columns_gap : Int64) (v_p1_maker_print_rows_parts : Int64) (v_p1_maker_print_rows_size : Int64) (v_p1_maker_print_rows_ahead : Int64) (v_p1_maker_print_rows_gap : Int64) (v_p1_maker_print_line_length : Int32) (v_p1_maker_print_line_units : Nat → Int32) (v_p2_thrown : Int32) (v_p2_size : Int32) (v_p2_families : Int32) (v_p2_atHand : Int32) (v_p2_family : Int32) (v_p2_density : Int32) (v_p2_pads : Int32) (v_p2_hasThermal : Int32) (v_p2_titleSize : Int32) (v_p2_written : Int32) (v_p2_at : Int32) (v_p2_begin : Int32) (v_p2_words : Int32) (v_p2_paste0 : Int64) (v_p2_units : Nat → Int32) (v_p2_kinds : Nat → Int32) (v_p2_values : Nat → Int64) (v_p2_names : Nat → Int64) (v_p2_low : Nat → Int64) (v_p2_high : Nat → Int64) (v_p2_told : Nat → Int32) (v_p2_leftOut : Nat → Int32) (v_p2_isMade : Nat → Int32) (v_p2_hands : Nat → Int64) (v_p2_pad : Nat → Int64) (v_p2_court : Nat → Int64) (v_p2_title : Nat → Int32) (v_p2_out : Nat → Int32) (v_p3 : Nat → Int64) (fC : Nat → Int32) (fK : Nat → Nat) (fV fL : Nat → Nat → Int32) (pj : Nat) : Prop := yW v_p1_reader_words_length v_p1_reader_words_units v_p2_size v_p2_units ∧ yFam v_p1_familyCount v_p2_families fC fK fV fL v_p2_kinds v_p2_values v_p2_names ∧ ySp v_p1_maker_spans_toldBits v_p1_maker_spans_exactBits v_p1_maker_spans_lows v_p1_maker_spans_highs v_p2_low v_p2_high v_p2_told ∧ yL v_p1_maker_leftOut v_p2_leftOut ∧ yH v_p1_handMade_count v_p1_handMade_isThere v_p1_handMade_boxes v_p2_isMade v_p2_hands ∧ yP v_p1_familyCount fC fV fL pj v_p1_maker_print_atHand v_p1_maker_print_count v_p1_maker_print_thermal v_p1_maker_print_density v_p1_maker_print_outerHigh v_p1_maker_print_nameLength v_p1_maker_print_isWritten v_p1_maker_print_cells v_p1_maker_print_yard v_p1_maker_print_line_length v_p1_maker_print_line_units v_p2_atHand v_p2_family v_p2_density v_p2_pads v_p2_hasThermal v_p2_titleSize v_p2_written v_p2_paste0 v_p2_pad v_p2_court v_p2_title v_p2_out
