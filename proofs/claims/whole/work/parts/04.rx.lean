theorem rx_iconst (z d j l x y pc : Nat) (c : Int32) (ts : List Nat) (lo : am_L) (st : List Value) (h : am_H) (r : Option Value) (h' : am_H) (k : Int) : am_X z d j (some (.iconst k, l, x, y, c, ts)) pc lo st h r h' = am_R z d j (pc + l) lo (.int c :: st) h r h' := rfl
theorem rx_bipush (z d j l x y pc : Nat) (c : Int32) (ts : List Nat) (lo : am_L) (st : List Value) (h : am_H) (r : Option Value) (h' : am_H) (k : Int) : am_X z d j (some (.bipush k, l, x, y, c, ts)) pc lo st h r h' = am_R z d j (pc + l) lo (.int c :: st) h r h' := rfl
theorem rx_sipush (z d j l x y pc : Nat) (c : Int32) (ts : List Nat) (lo : am_L) (st : List Value) (h : am_H) (r : Option Value) (h' : am_H) (k : Int) : am_X z d j (some (.sipush k, l, x, y, c, ts)) pc lo st h r h' = am_R z d j (pc + l) lo (.int c :: st) h r h' := rfl
theorem rx_iload_n (z d j l x y pc : Nat) (c : Int32) (ts : List Nat) (lo : am_L) (st : List Value) (h : am_H) (r : Option Value) (h' : am_H) (k : Fin 4) : am_X z d j (some (.iload_n k, l, x, y, c, ts)) pc lo st h r h' = am_K z d j (am_pI (am_ld lo x) (pc + l) lo st) h r h' := rfl
theorem rx_iload (z d j l x y pc : Nat) (c : Int32) (ts : List Nat) (lo : am_L) (st : List Value) (h : am_H) (r : Option Value) (h' : am_H) (k : Nat) : am_X z d j (some (.iload k, l, x, y, c, ts)) pc lo st h r h' = am_K z d j (am_pI (am_ld lo x) (pc + l) lo st) h r h' := rfl
theorem rx_aload_n (z d j l x y pc : Nat) (c : Int32) (ts : List Nat) (lo : am_L) (st : List Value) (h : am_H) (r : Option Value) (h' : am_H) (k : Fin 4) : am_X z d j (some (.aload_n k, l, x, y, c, ts)) pc lo st h r h' = am_K z d j (am_pR (am_ld lo x) (pc + l) lo st) h r h' := rfl
theorem rx_aload (z d j l x y pc : Nat) (c : Int32) (ts : List Nat) (lo : am_L) (st : List Value) (h : am_H) (r : Option Value) (h' : am_H) (k : Nat) : am_X z d j (some (.aload k, l, x, y, c, ts)) pc lo st h r h' = am_K z d j (am_pR (am_ld lo x) (pc + l) lo st) h r h' := rfl
theorem rx_istore_n (z d j l x y pc : Nat) (c : Int32) (ts : List Nat) (lo : am_L) (st : List Value) (h : am_H) (r : Option Value) (h' : am_H) (k : Fin 4) : am_X z d j (some (.istore_n k, l, x, y, c, ts)) pc lo st h r h' = am_K z d j (am_sI x (pc + l) lo st) h r h' := rfl
theorem rx_istore (z d j l x y pc : Nat) (c : Int32) (ts : List Nat) (lo : am_L) (st : List Value) (h : am_H) (r : Option Value) (h' : am_H) (k : Nat) : am_X z d j (some (.istore k, l, x, y, c, ts)) pc lo st h r h' = am_K z d j (am_sI x (pc + l) lo st) h r h' := rfl
theorem rx_astore_n (z d j l x y pc : Nat) (c : Int32) (ts : List Nat) (lo : am_L) (st : List Value) (h : am_H) (r : Option Value) (h' : am_H) (k : Fin 4) : am_X z d j (some (.astore_n k, l, x, y, c, ts)) pc lo st h r h' = am_K z d j (am_sR x (pc + l) lo st) h r h' := rfl
theorem rx_astore (z d j l x y pc : Nat) (c : Int32) (ts : List Nat) (lo : am_L) (st : List Value) (h : am_H) (r : Option Value) (h' : am_H) (k : Nat) : am_X z d j (some (.astore k, l, x, y, c, ts)) pc lo st h r h' = am_K z d j (am_sR x (pc + l) lo st) h r h' := rfl
theorem rx_iinc (z d j l x y pc : Nat) (c : Int32) (ts : List Nat) (lo : am_L) (st : List Value) (h : am_H) (r : Option Value) (h' : am_H) (k : Nat) (n : Int) : am_X z d j (some (.iinc k n, l, x, y, c, ts)) pc lo st h r h' = am_K z d j (am_inc (am_ld lo x) c x (pc + l) lo st) h r h' := rfl
theorem rx_iadd (z d j l x y pc : Nat) (c : Int32) (ts : List Nat) (lo : am_L) (st : List Value) (h : am_H) (r : Option Value) (h' : am_H) (a b : Int32) : am_X z d j (some (.iadd, l, x, y, c, ts)) pc lo (.int b :: .int a :: st) h r h' = am_R z d j (pc + l) lo (.int (a + b) :: st) h r h' := rfl
theorem rx_isub (z d j l x y pc : Nat) (c : Int32) (ts : List Nat) (lo : am_L) (st : List Value) (h : am_H) (r : Option Value) (h' : am_H) (a b : Int32) : am_X z d j (some (.isub, l, x, y, c, ts)) pc lo (.int b :: .int a :: st) h r h' = am_R z d j (pc + l) lo (.int (a - b) :: st) h r h' := rfl
theorem rx_imul (z d j l x y pc : Nat) (c : Int32) (ts : List Nat) (lo : am_L) (st : List Value) (h : am_H) (r : Option Value) (h' : am_H) (a b : Int32) : am_X z d j (some (.imul, l, x, y, c, ts)) pc lo (.int b :: .int a :: st) h r h' = am_R z d j (pc + l) lo (.int (a * b) :: st) h r h' := rfl
theorem rx_iand (z d j l x y pc : Nat) (c : Int32) (ts : List Nat) (lo : am_L) (st : List Value) (h : am_H) (r : Option Value) (h' : am_H) (a b : Int32) : am_X z d j (some (.iand, l, x, y, c, ts)) pc lo (.int b :: .int a :: st) h r h' = am_R z d j (pc + l) lo (.int (a &&& b) :: st) h r h' := rfl
theorem rx_ior (z d j l x y pc : Nat) (c : Int32) (ts : List Nat) (lo : am_L) (st : List Value) (h : am_H) (r : Option Value) (h' : am_H) (a b : Int32) : am_X z d j (some (.ior, l, x, y, c, ts)) pc lo (.int b :: .int a :: st) h r h' = am_R z d j (pc + l) lo (.int (a ||| b) :: st) h r h' := rfl
theorem rx_ishl (z d j l x y pc : Nat) (c : Int32) (ts : List Nat) (lo : am_L) (st : List Value) (h : am_H) (r : Option Value) (h' : am_H) (a b : Int32) : am_X z d j (some (.ishl, l, x, y, c, ts)) pc lo (.int b :: .int a :: st) h r h' = am_R z d j (pc + l) lo (.int (a <<< (b &&& 31)) :: st) h r h' := rfl
theorem rx_ishr (z d j l x y pc : Nat) (c : Int32) (ts : List Nat) (lo : am_L) (st : List Value) (h : am_H) (r : Option Value) (h' : am_H) (a b : Int32) : am_X z d j (some (.ishr, l, x, y, c, ts)) pc lo (.int b :: .int a :: st) h r h' = am_R z d j (pc + l) lo (.int (a >>> (b &&& 31)) :: st) h r h' := rfl
theorem rx_idiv (z d j l x y pc : Nat) (c : Int32) (ts : List Nat) (lo : am_L) (st : List Value) (h : am_H) (r : Option Value) (h' : am_H) (a b : Int32) (hb : ¬ b = 0) : am_X z d j (some (.idiv, l, x, y, c, ts)) pc lo (.int b :: .int a :: st) h r h' = am_R z d j (pc + l) lo (.int (a / b) :: st) h r h' := by
  show am_K z d j (am_d2 (fun a b => a / b) (pc + l) lo (.int b :: .int a :: st)) h r h' = _
  simp only [am_d2, hb, if_false, am_K]
theorem rx_irem (z d j l x y pc : Nat) (c : Int32) (ts : List Nat) (lo : am_L) (st : List Value) (h : am_H) (r : Option Value) (h' : am_H) (a b : Int32) (hb : ¬ b = 0) : am_X z d j (some (.irem, l, x, y, c, ts)) pc lo (.int b :: .int a :: st) h r h' = am_R z d j (pc + l) lo (.int (a - a / b * b) :: st) h r h' := by
  show am_K z d j (am_d2 (fun a b => a - a / b * b) (pc + l) lo (.int b :: .int a :: st)) h r h' = _
  simp only [am_d2, hb, if_false, am_K]
theorem rx_dup_i (z d j l x y pc : Nat) (c : Int32) (ts : List Nat) (lo : am_L) (st : List Value) (h : am_H) (r : Option Value) (h' : am_H) (a : Int32) : am_X z d j (some (.dup, l, x, y, c, ts)) pc lo (.int a :: st) h r h' = am_R z d j (pc + l) lo (.int a :: .int a :: st) h r h' := rfl
theorem rx_dup_r (z d j l x y pc : Nat) (c : Int32) (ts : List Nat) (lo : am_L) (st : List Value) (h : am_H) (r : Option Value) (h' : am_H) (a : Nat) : am_X z d j (some (.dup, l, x, y, c, ts)) pc lo (.ref a :: st) h r h' = am_R z d j (pc + l) lo (.ref a :: .ref a :: st) h r h' := rfl
theorem rx_pop_i (z d j l x y pc : Nat) (c : Int32) (ts : List Nat) (lo : am_L) (st : List Value) (h : am_H) (r : Option Value) (h' : am_H) (a : Int32) : am_X z d j (some (.pop, l, x, y, c, ts)) pc lo (.int a :: st) h r h' = am_R z d j (pc + l) lo st h r h' := rfl
theorem rx_pop_r (z d j l x y pc : Nat) (c : Int32) (ts : List Nat) (lo : am_L) (st : List Value) (h : am_H) (r : Option Value) (h' : am_H) (a : Nat) : am_X z d j (some (.pop, l, x, y, c, ts)) pc lo (.ref a :: st) h r h' = am_R z d j (pc + l) lo st h r h' := rfl
theorem rx_dup_x1 (z d j l x y pc : Nat) (c : Int32) (ts : List Nat) (lo : am_L) (st : List Value) (h : am_H) (r : Option Value) (h' : am_H) (a : Int32) (b : Nat) : am_X z d j (some (.dup_x1, l, x, y, c, ts)) pc lo (.int a :: .ref b :: st) h r h' = am_R z d j (pc + l) lo (.int a :: .ref b :: .int a :: st) h r h' := rfl
theorem rx_dup_x2 (z d j l x y pc : Nat) (c : Int32) (ts : List Nat) (lo : am_L) (st : List Value) (h : am_H) (r : Option Value) (h' : am_H) (a b : Int32) (e : Nat) : am_X z d j (some (.dup_x2, l, x, y, c, ts)) pc lo (.int a :: .int b :: .ref e :: st) h r h' = am_R z d j (pc + l) lo (.int a :: .int b :: .ref e :: .int a :: st) h r h' := rfl
theorem rx_dup2 (z d j l x y pc : Nat) (c : Int32) (ts : List Nat) (lo : am_L) (st : List Value) (h : am_H) (r : Option Value) (h' : am_H) (a : Int32) (b : Nat) : am_X z d j (some (.dup2, l, x, y, c, ts)) pc lo (.int a :: .ref b :: st) h r h' = am_R z d j (pc + l) lo (.int a :: .ref b :: .int a :: .ref b :: st) h r h' := rfl
theorem rx_if_eq (z d j l x y pc : Nat) (c : Int32) (ts : List Nat) (lo : am_L) (st : List Value) (h : am_H) (r : Option Value) (h' : am_H) (a : Int32) (o : Int) : am_X z d j (some (.ifCond .eq o, l, x, y, c, ts)) pc lo (.int a :: st) h r h' = if a = 0 then am_R z d j x lo st h r h' else am_R z d j (pc + l) lo st h r h' := by
  show am_R z d j (if am_c1f .eq a = true then x else pc + l) lo st h r h' = _
  by_cases q : a = 0 <;> simp [am_c1f, q]
theorem rx_if_ne (z d j l x y pc : Nat) (c : Int32) (ts : List Nat) (lo : am_L) (st : List Value) (h : am_H) (r : Option Value) (h' : am_H) (a : Int32) (o : Int) : am_X z d j (some (.ifCond .ne o, l, x, y, c, ts)) pc lo (.int a :: st) h r h' = if ¬ a = 0 then am_R z d j x lo st h r h' else am_R z d j (pc + l) lo st h r h' := by
  show am_R z d j (if am_c1f .ne a = true then x else pc + l) lo st h r h' = _
  by_cases q : ¬ a = 0 <;> simp [am_c1f, q]
theorem rx_if_lt (z d j l x y pc : Nat) (c : Int32) (ts : List Nat) (lo : am_L) (st : List Value) (h : am_H) (r : Option Value) (h' : am_H) (a : Int32) (o : Int) : am_X z d j (some (.ifCond .lt o, l, x, y, c, ts)) pc lo (.int a :: st) h r h' = if a < 0 then am_R z d j x lo st h r h' else am_R z d j (pc + l) lo st h r h' := by
  show am_R z d j (if am_c1f .lt a = true then x else pc + l) lo st h r h' = _
  by_cases q : a < 0 <;> simp [am_c1f, q]
theorem rx_if_ge (z d j l x y pc : Nat) (c : Int32) (ts : List Nat) (lo : am_L) (st : List Value) (h : am_H) (r : Option Value) (h' : am_H) (a : Int32) (o : Int) : am_X z d j (some (.ifCond .ge o, l, x, y, c, ts)) pc lo (.int a :: st) h r h' = if 0 ≤ a then am_R z d j x lo st h r h' else am_R z d j (pc + l) lo st h r h' := by
  show am_R z d j (if am_c1f .ge a = true then x else pc + l) lo st h r h' = _
  by_cases q : 0 ≤ a <;> simp [am_c1f, q]
theorem rx_if_gt (z d j l x y pc : Nat) (c : Int32) (ts : List Nat) (lo : am_L) (st : List Value) (h : am_H) (r : Option Value) (h' : am_H) (a : Int32) (o : Int) : am_X z d j (some (.ifCond .gt o, l, x, y, c, ts)) pc lo (.int a :: st) h r h' = if 0 < a then am_R z d j x lo st h r h' else am_R z d j (pc + l) lo st h r h' := by
  show am_R z d j (if am_c1f .gt a = true then x else pc + l) lo st h r h' = _
  by_cases q : 0 < a <;> simp [am_c1f, q]
theorem rx_if_le (z d j l x y pc : Nat) (c : Int32) (ts : List Nat) (lo : am_L) (st : List Value) (h : am_H) (r : Option Value) (h' : am_H) (a : Int32) (o : Int) : am_X z d j (some (.ifCond .le o, l, x, y, c, ts)) pc lo (.int a :: st) h r h' = if a ≤ 0 then am_R z d j x lo st h r h' else am_R z d j (pc + l) lo st h r h' := by
  show am_R z d j (if am_c1f .le a = true then x else pc + l) lo st h r h' = _
  by_cases q : a ≤ 0 <;> simp [am_c1f, q]
theorem rx_icmp_eq (z d j l x y pc : Nat) (c : Int32) (ts : List Nat) (lo : am_L) (st : List Value) (h : am_H) (r : Option Value) (h' : am_H) (a b : Int32) (o : Int) : am_X z d j (some (.if_icmp .eq o, l, x, y, c, ts)) pc lo (.int b :: .int a :: st) h r h' = if a = b then am_R z d j x lo st h r h' else am_R z d j (pc + l) lo st h r h' := by
  show am_R z d j (if am_c2f .eq a b = true then x else pc + l) lo st h r h' = _
  by_cases q : a = b <;> simp [am_c2f, q]
theorem rx_icmp_ne (z d j l x y pc : Nat) (c : Int32) (ts : List Nat) (lo : am_L) (st : List Value) (h : am_H) (r : Option Value) (h' : am_H) (a b : Int32) (o : Int) : am_X z d j (some (.if_icmp .ne o, l, x, y, c, ts)) pc lo (.int b :: .int a :: st) h r h' = if ¬ a = b then am_R z d j x lo st h r h' else am_R z d j (pc + l) lo st h r h' := by
  show am_R z d j (if am_c2f .ne a b = true then x else pc + l) lo st h r h' = _
  by_cases q : ¬ a = b <;> simp [am_c2f, q]
theorem rx_icmp_lt (z d j l x y pc : Nat) (c : Int32) (ts : List Nat) (lo : am_L) (st : List Value) (h : am_H) (r : Option Value) (h' : am_H) (a b : Int32) (o : Int) : am_X z d j (some (.if_icmp .lt o, l, x, y, c, ts)) pc lo (.int b :: .int a :: st) h r h' = if a < b then am_R z d j x lo st h r h' else am_R z d j (pc + l) lo st h r h' := by
  show am_R z d j (if am_c2f .lt a b = true then x else pc + l) lo st h r h' = _
  by_cases q : a < b <;> simp [am_c2f, q]
theorem rx_icmp_ge (z d j l x y pc : Nat) (c : Int32) (ts : List Nat) (lo : am_L) (st : List Value) (h : am_H) (r : Option Value) (h' : am_H) (a b : Int32) (o : Int) : am_X z d j (some (.if_icmp .ge o, l, x, y, c, ts)) pc lo (.int b :: .int a :: st) h r h' = if b ≤ a then am_R z d j x lo st h r h' else am_R z d j (pc + l) lo st h r h' := by
  show am_R z d j (if am_c2f .ge a b = true then x else pc + l) lo st h r h' = _
  by_cases q : b ≤ a <;> simp [am_c2f, q]
theorem rx_icmp_gt (z d j l x y pc : Nat) (c : Int32) (ts : List Nat) (lo : am_L) (st : List Value) (h : am_H) (r : Option Value) (h' : am_H) (a b : Int32) (o : Int) : am_X z d j (some (.if_icmp .gt o, l, x, y, c, ts)) pc lo (.int b :: .int a :: st) h r h' = if b < a then am_R z d j x lo st h r h' else am_R z d j (pc + l) lo st h r h' := by
  show am_R z d j (if am_c2f .gt a b = true then x else pc + l) lo st h r h' = _
  by_cases q : b < a <;> simp [am_c2f, q]
theorem rx_icmp_le (z d j l x y pc : Nat) (c : Int32) (ts : List Nat) (lo : am_L) (st : List Value) (h : am_H) (r : Option Value) (h' : am_H) (a b : Int32) (o : Int) : am_X z d j (some (.if_icmp .le o, l, x, y, c, ts)) pc lo (.int b :: .int a :: st) h r h' = if a ≤ b then am_R z d j x lo st h r h' else am_R z d j (pc + l) lo st h r h' := by
  show am_R z d j (if am_c2f .le a b = true then x else pc + l) lo st h r h' = _
  by_cases q : a ≤ b <;> simp [am_c2f, q]
theorem rx_acmp_eq (z d j l x y pc : Nat) (c : Int32) (ts : List Nat) (lo : am_L) (st : List Value) (h : am_H) (r : Option Value) (h' : am_H) (a b : Nat) (o : Int) : am_X z d j (some (.if_acmp .eq o, l, x, y, c, ts)) pc lo (.ref b :: .ref a :: st) h r h' = if a = b then am_R z d j x lo st h r h' else am_R z d j (pc + l) lo st h r h' := by
  show am_R z d j (if am_caf .eq a b = true then x else pc + l) lo st h r h' = _
  by_cases q : a = b <;> simp [am_caf, q]
theorem rx_acmp_ne (z d j l x y pc : Nat) (c : Int32) (ts : List Nat) (lo : am_L) (st : List Value) (h : am_H) (r : Option Value) (h' : am_H) (a b : Nat) (o : Int) : am_X z d j (some (.if_acmp .ne o, l, x, y, c, ts)) pc lo (.ref b :: .ref a :: st) h r h' = if ¬ a = b then am_R z d j x lo st h r h' else am_R z d j (pc + l) lo st h r h' := by
  show am_R z d j (if am_caf .ne a b = true then x else pc + l) lo st h r h' = _
  by_cases q : ¬ a = b <;> simp [am_caf, q]
theorem rx_goto (z d j l x y pc : Nat) (c : Int32) (ts : List Nat) (lo : am_L) (st : List Value) (h : am_H) (r : Option Value) (h' : am_H) (o : Int) : am_X z d j (some (.goto o, l, x, y, c, ts)) pc lo st h r h' = am_R z d j x lo st h r h' := rfl
theorem rx_tableswitch (z d j l x y pc : Nat) (c : Int32) (ts : List Nat) (lo : am_L) (st : List Value) (h : am_H) (r : Option Value) (h' : am_H) (o1 o2 o3 : Int) (o4 : Array Int) (a : Int32) : am_X z d j (some (.tableswitch o1 o2 o3 o4, l, x, y, c, ts)) pc lo (.int a :: st) h r h' = am_R z d j (if a < 0 ∨ ts.length ≤ a.toNatClampNeg then x else am_tn ts a.toNatClampNeg x) lo st h r h' := rfl
theorem rx_getfield (z d j l x y pc : Nat) (c : Int32) (ts : List Nat) (lo : am_L) (st : List Value) (h : am_H) (r : Option Value) (h' : am_H) (k a : Nat) : am_X z d j (some (.getfield k, l, x, y, c, ts)) pc lo (.ref a :: st) h r h' = am_K z d j (am_pV (am_gf (h.1 a) x y) (pc + l) lo st) h r h' := rfl
theorem rx_iaload (z d j l x y pc : Nat) (c : Int32) (ts : List Nat) (lo : am_L) (st : List Value) (h : am_H) (r : Option Value) (h' : am_H) (i : Int32) (a : Nat) : am_X z d j (some (.iaload, l, x, y, c, ts)) pc lo (.int i :: .ref a :: st) h r h' = am_K z d j (am_pV (am_ri 0 (h.1 a) i) (pc + l) lo st) h r h' := rfl
theorem rx_baload (z d j l x y pc : Nat) (c : Int32) (ts : List Nat) (lo : am_L) (st : List Value) (h : am_H) (r : Option Value) (h' : am_H) (i : Int32) (a : Nat) : am_X z d j (some (.baload, l, x, y, c, ts)) pc lo (.int i :: .ref a :: st) h r h' = am_K z d j (am_pV (am_ri 1 (h.1 a) i) (pc + l) lo st) h r h' := rfl
theorem rx_aaload (z d j l x y pc : Nat) (c : Int32) (ts : List Nat) (lo : am_L) (st : List Value) (h : am_H) (r : Option Value) (h' : am_H) (i : Int32) (a : Nat) : am_X z d j (some (.aaload, l, x, y, c, ts)) pc lo (.int i :: .ref a :: st) h r h' = am_K z d j (am_pV (am_rq (h.1 a) i) (pc + l) lo st) h r h' := rfl
theorem rx_arraylength (z d j l x y pc : Nat) (c : Int32) (ts : List Nat) (lo : am_L) (st : List Value) (h : am_H) (r : Option Value) (h' : am_H) (a : Nat) : am_X z d j (some (.arraylength, l, x, y, c, ts)) pc lo (.ref a :: st) h r h' = am_K z d j (am_pN (am_ln (h.1 a)) (pc + l) lo st) h r h' := rfl
theorem rx_ireturn (z d j l x y pc : Nat) (c : Int32) (ts : List Nat) (lo : am_L) (h : am_H) (r : Option Value) (h' : am_H) (v : Int32) : am_X z d j (some (.ireturn, l, x, y, c, ts)) pc lo [.int v] h r h' = (if am_ret j = 1 ∨ (am_ret j = 2 ∧ v &&& 1 = v) then (r = some (.int v) ∧ h' = h) else False) := by
  by_cases q : am_ret j = 1 ∨ (am_ret j = 2 ∧ v &&& 1 = v)
  · simp only [am_X, am_rt, q, if_true]
  · simp only [am_X, am_rt, q, if_false, am_ca, am_w, am_n, am_s, am_K]
theorem rx_areturn (z d j l x y pc : Nat) (c : Int32) (ts : List Nat) (lo : am_L) (h : am_H) (r : Option Value) (h' : am_H) (v : Nat) : am_X z d j (some (.areturn, l, x, y, c, ts)) pc lo [.ref v] h r h' = (if am_ret j = 3 then (r = some (.ref v) ∧ h' = h) else False) := by
  by_cases q : am_ret j = 3
  · simp only [am_X, am_rt, q, if_true]
  · simp only [am_X, am_rt, q, if_false, am_ca, am_w, am_n, am_s, am_K]
theorem rx_return (z d j l x y pc : Nat) (c : Int32) (ts : List Nat) (lo : am_L) (h : am_H) (r : Option Value) (h' : am_H) : am_X z d j (some (.return_, l, x, y, c, ts)) pc lo [] h r h' = (if am_ret j = 0 then (r = none ∧ h' = h) else False) := by
  by_cases q : am_ret j = 0
  · simp only [am_X, am_rt, q, if_true]
  · simp only [am_X, am_rt, q, if_false, am_ca, am_w, am_n, am_s, am_K]
theorem rx_invv (z d j l x y pc : Nat) (c : Int32) (ts : List Nat) (lo : am_L) (st : List Value) (h : am_H) (r : Option Value) (h' : am_H) (k : Nat) : am_X z d j (some (.invokevirtual k, l, x, y, c, ts)) pc lo st h r h' = am_KC z d j x (pc + l) lo (am_k (am_cv (am_pop y st []) x h)) h r h' := by
  simp only [am_X, am_rt, am_ca, am_KC, am_w, am_n, am_s, am_K]
theorem rx_invs (z d j l x y pc : Nat) (c : Int32) (ts : List Nat) (lo : am_L) (st : List Value) (h : am_H) (r : Option Value) (h' : am_H) (k : Nat) (hy : y < 90) : am_X z d j (some (.invokestatic k, l, x, y, c, ts)) pc lo st h r h' = am_KC z d j x (pc + l) lo (am_k (am_pop y st [])) h r h' := by
  have h0 : ¬ y = 92 := by omega
  have h1 : ¬ y = 90 := by omega
  have h2 : ¬ y = 91 := by omega
  cases hk : am_k (am_pop y st []) with
  | some q => simp only [am_X, am_rt, am_ca, hy, if_true, hk, am_KC]
  | none =>
    simp only [am_X, am_rt, am_ca, hy, if_true, hk, am_KC, am_n, am_s, h1, h2, if_false, am_K]
    have hw : am_w z (.invokestatic k) x y st h = none := by
      simp only [am_w, h0, false_and, if_false]
      split <;> rfl
    rw [hw]
theorem rx_invi (z d j l x y pc : Nat) (c : Int32) (ts : List Nat) (lo : am_L) (st : List Value) (h : am_H) (r : Option Value) (h' : am_H) (k : Nat) (hy : y < 90) : am_X z d j (some (.invokespecial k, l, x, y, c, ts)) pc lo st h r h' = am_KC z d j x (pc + l) lo (am_k (am_cs (am_pop y st []))) h r h' := by
  have h0 : ¬ y = 99 := by omega
  cases hk : am_k (am_cs (am_pop y st [])) with
  | some q => simp only [am_X, am_rt, am_ca, hy, if_true, hk, am_KC]
  | none =>
    simp only [am_X, am_rt, am_ca, hy, if_true, hk, am_KC, am_n, am_w]
    have hw : am_s (.invokespecial k) x y c ts (pc + l) lo st h = none := by
      simp only [am_s, h0, false_and, if_false]
      split <;> rfl
    rw [hw]
    rfl
theorem rx_max (z d j l x pc : Nat) (c : Int32) (ts : List Nat) (lo : am_L) (st : List Value) (h : am_H) (r : Option Value) (h' : am_H) (k : Nat) (a b : Int32) : am_X z d j (some (.invokestatic k, l, x, 90, c, ts)) pc lo (.int b :: .int a :: st) h r h' = am_K z d j (am_m2 (fun a b => if a < b then b else a) (pc + l) lo (.int b :: .int a :: st)) h r h' := by
  have h0 : ¬ (90 : Nat) = 92 := by decide
  have hw : am_w z (.invokestatic k) x 90 (.int b :: .int a :: st) h = none := by
    simp only [am_w, h0, false_and, if_false]
    split <;> rfl
  have hca : am_ca (.invokestatic k) x 90 (.int b :: .int a :: st) h = none := by simp [am_ca]
  have hs : am_s (.invokestatic k) x 90 c ts (pc + l) lo (.int b :: .int a :: st) h = am_m2 (fun a b => if a < b then b else a) (pc + l) lo (.int b :: .int a :: st) := by simp [am_s]
  simp only [am_X, am_rt, hca, hw, am_n, hs]
theorem rx_min (z d j l x pc : Nat) (c : Int32) (ts : List Nat) (lo : am_L) (st : List Value) (h : am_H) (r : Option Value) (h' : am_H) (k : Nat) (a b : Int32) : am_X z d j (some (.invokestatic k, l, x, 91, c, ts)) pc lo (.int b :: .int a :: st) h r h' = am_K z d j (am_m2 (fun a b => if b < a then b else a) (pc + l) lo (.int b :: .int a :: st)) h r h' := by
  have h0 : ¬ (91 : Nat) = 92 := by decide
  have hw : am_w z (.invokestatic k) x 91 (.int b :: .int a :: st) h = none := by
    simp only [am_w, h0, false_and, if_false]
    split <;> rfl
  have hca : am_ca (.invokestatic k) x 91 (.int b :: .int a :: st) h = none := by simp [am_ca]
  have hs : am_s (.invokestatic k) x 91 c ts (pc + l) lo (.int b :: .int a :: st) h = am_m2 (fun a b => if b < a then b else a) (pc + l) lo (.int b :: .int a :: st) := by simp [am_s]
  simp only [am_X, am_rt, hca, hw, am_n, hs]
theorem rx_copy (z d j l x pc : Nat) (c : Int32) (ts : List Nat) (lo : am_L) (st : List Value) (h : am_H) (r : Option Value) (h' : am_H) (k b : Nat) (n dp sp : Int32) (hg : am_g 8 st = true) : am_X z d j (some (.invokestatic k, l, x, 92, c, ts)) pc lo (.int n :: .int dp :: .ref b :: .int sp :: .ref b :: st) h r h' = am_KW z d j (pc + l) lo (am_w1 z b st (am_cp (h.1 b) sp dp n)) h r h' := by
  have hw : am_w z (.invokestatic k) x 92 (.int n :: .int dp :: .ref b :: .int sp :: .ref b :: st) h = am_w1 z b st (am_cp (h.1 b) sp dp n) := by
    simp only [am_w, hg, and_self, if_true]
  cases hk : am_w1 z b st (am_cp (h.1 b) sp dp n) with
  | some q => rw [hk] at hw; simp only [am_X, am_rt, am_ca, hw, am_KW]; rfl
  | none => rw [hk] at hw; simp only [am_X, am_rt, am_ca, hw, am_KW, am_n, am_s, am_K]; rfl
theorem rx_objInit (z d j l x pc : Nat) (c : Int32) (ts : List Nat) (lo : am_L) (st : List Value) (h : am_H) (r : Option Value) (h' : am_H) (k a : Nat) (hg : am_g 8 st = true) : am_X z d j (some (.invokespecial k, l, x, 99, c, ts)) pc lo (.ref a :: st) h r h' = am_R z d j (pc + l) lo st h r h' := by
  show am_K z d j (if (99 : Nat) = 99 ∧ am_g 8 st = true then some (pc + l, lo, st) else none) h r h' = _
  simp only [hg, and_self, if_true, am_K]
theorem rx_putfield (z d j l x y pc : Nat) (c : Int32) (ts : List Nat) (lo : am_L) (st : List Value) (h : am_H) (r : Option Value) (h' : am_H) (k a : Nat) (v : Value) (hf : am_fok x y v = true) : am_X z d j (some (.putfield k, l, x, y, c, ts)) pc lo (v :: .ref a :: st) h r h' = am_KW z d j (pc + l) lo (am_w1 z a st (am_pf (h.1 a) x y v)) h r h' := by
  have hw : am_w z (.putfield k) x y (v :: .ref a :: st) h = am_w1 z a st (am_pf (h.1 a) x y v) := by
    simp only [am_w, hf, if_true]
  cases hk : am_w1 z a st (am_pf (h.1 a) x y v) with
  | some q => rw [hk] at hw; simp only [am_X, am_rt, am_ca, hw, am_KW]
  | none => rw [hk] at hw; simp only [am_X, am_rt, am_ca, hw, am_KW, am_n, am_s, am_K]
theorem rx_iastore (z d j l x y pc : Nat) (c : Int32) (ts : List Nat) (lo : am_L) (st : List Value) (h : am_H) (r : Option Value) (h' : am_H) (a : Nat) (v i : Int32) : am_X z d j (some (.iastore, l, x, y, c, ts)) pc lo (.int v :: .int i :: .ref a :: st) h r h' = am_KW z d j (pc + l) lo (am_w1 z a st (am_wi 0 (h.1 a) i v)) h r h' := by
  have hw : am_w z .iastore x y (.int v :: .int i :: .ref a :: st) h = am_w1 z a st (am_wi 0 (h.1 a) i v) := rfl
  cases hk : am_w1 z a st (am_wi 0 (h.1 a) i v) with
  | some q => rw [hk] at hw; simp only [am_X, am_rt, am_ca, hw, am_KW]
  | none => rw [hk] at hw; simp only [am_X, am_rt, am_ca, hw, am_KW, am_n, am_s, am_K]
theorem rx_bastore (z d j l x y pc : Nat) (c : Int32) (ts : List Nat) (lo : am_L) (st : List Value) (h : am_H) (r : Option Value) (h' : am_H) (a : Nat) (v i : Int32) : am_X z d j (some (.bastore, l, x, y, c, ts)) pc lo (.int v :: .int i :: .ref a :: st) h r h' = am_KW z d j (pc + l) lo (am_w1 z a st (am_wi 1 (h.1 a) i (v &&& 1))) h r h' := by
  have hw : am_w z .bastore x y (.int v :: .int i :: .ref a :: st) h = am_w1 z a st (am_wi 1 (h.1 a) i (v &&& 1)) := rfl
  cases hk : am_w1 z a st (am_wi 1 (h.1 a) i (v &&& 1)) with
  | some q => rw [hk] at hw; simp only [am_X, am_rt, am_ca, hw, am_KW]
  | none => rw [hk] at hw; simp only [am_X, am_rt, am_ca, hw, am_KW, am_n, am_s, am_K]
theorem rx_aastore (z d j l x y pc : Nat) (c : Int32) (ts : List Nat) (lo : am_L) (st : List Value) (h : am_H) (r : Option Value) (h' : am_H) (a v : Nat) (i : Int32) : am_X z d j (some (.aastore, l, x, y, c, ts)) pc lo (.ref v :: .int i :: .ref a :: st) h r h' = am_KW z d j (pc + l) lo (am_w1 z a st (am_wq (h.1 a) i v (h.1 v))) h r h' := by
  have hw : am_w z .aastore x y (.ref v :: .int i :: .ref a :: st) h = am_w1 z a st (am_wq (h.1 a) i v (h.1 v)) := rfl
  cases hk : am_w1 z a st (am_wq (h.1 a) i v (h.1 v)) with
  | some q => rw [hk] at hw; simp only [am_X, am_rt, am_ca, hw, am_KW]
  | none => rw [hk] at hw; simp only [am_X, am_rt, am_ca, hw, am_KW, am_n, am_s, am_K]
theorem rx_new (z d j l x y pc : Nat) (c : Int32) (ts : List Nat) (lo : am_L) (st : List Value) (h : am_H) (r : Option Value) (h' : am_H) (k : Nat) : am_X z d j (some (.new k, l, x, y, c, ts)) pc lo st h r h' = am_R z d j (pc + l) lo (.ref h.2.1 :: st) (am_nw h (.inr (x, am_df x)) y) r h' := rfl
theorem rx_newarray (z d j l x y pc : Nat) (c : Int32) (ts : List Nat) (lo : am_L) (st : List Value) (h : am_H) (r : Option Value) (h' : am_H) (t : ArrayType) (n : Int32) (hn : ¬ n < 0 ∧ n.toNatClampNeg ≤ 1000000) : am_X z d j (some (.newarray t, l, x, y, c, ts)) pc lo (.int n :: st) h r h' = am_R z d j (pc + l) lo (.ref h.2.1 :: st) (am_nw h (.inl (x, n.toNatClampNeg, .inl (fun _ => 0))) n.toNatClampNeg) r h' := by
  have hw : am_n (.newarray t) x y (.int n :: st) = some (st, .inl (x, n.toNatClampNeg, .inl (fun _ => 0)), n.toNatClampNeg) := by
    simp only [am_n, hn, not_false_eq_true, and_self, if_true]
  simp only [am_X, am_rt, am_ca, am_w, hw]
theorem rx_anewarray (z d j l x y pc : Nat) (c : Int32) (ts : List Nat) (lo : am_L) (st : List Value) (h : am_H) (r : Option Value) (h' : am_H) (k : Nat) (n : Int32) (hn : ¬ n < 0 ∧ n.toNatClampNeg ≤ 1000000) : am_X z d j (some (.anewarray k, l, x, y, c, ts)) pc lo (.int n :: st) h r h' = am_R z d j (pc + l) lo (.ref h.2.1 :: st) (am_nw h (.inl (x, n.toNatClampNeg, .inr (.inr (.inr (.inr (fun _ => none)))))) n.toNatClampNeg) r h' := by
  have hw : am_n (.anewarray k) x y (.int n :: st) = some (st, .inl (x, n.toNatClampNeg, .inr (.inr (.inr (.inr (fun _ => none))))), n.toNatClampNeg) := by
    simp only [am_n, hn, not_false_eq_true, and_self, if_true]
  simp only [am_X, am_rt, am_ca, am_w, hw]
theorem ev_K (z d j q : Nat) (lo : am_L) (st : List Value) (h : am_H) (r : Option Value) (h' : am_H) : am_K z d j (some (q, lo, st)) h r h' = am_R z d j q lo st h r h' := rfl
theorem ev_pI (w : Int32) (q : Nat) (lo : am_L) (st : List Value) : am_pI (some (.int w)) q lo st = some (q, lo, .int w :: st) := rfl
theorem ev_pR (w : Nat) (q : Nat) (lo : am_L) (st : List Value) : am_pR (some (.ref w)) q lo st = some (q, lo, .ref w :: st) := rfl
theorem ev_pVi (w : Int32) (q : Nat) (lo : am_L) (st : List Value) : am_pV (some (.int w)) q lo st = some (q, lo, .int w :: st) := rfl
theorem ev_pVr (w : Nat) (q : Nat) (lo : am_L) (st : List Value) : am_pV (some (.ref w)) q lo st = some (q, lo, .ref w :: st) := rfl
theorem ev_pN (w : Int32) (q : Nat) (lo : am_L) (st : List Value) : am_pN (some w) q lo st = some (q, lo, .int w :: st) := rfl
theorem ev_m2 (f : Int32 → Int32 → Int32) (q : Nat) (lo : am_L) (st : List Value) (a b : Int32) (hg : am_g 8 st = true) : am_m2 f q lo (.int b :: .int a :: st) = some (q, lo, .int (f a b) :: st) := by
  simp only [am_m2, hg, if_true]
theorem ev_sI (x q : Nat) (lo : am_L) (st : List Value) (a : Int32) (hx : x < lo.length) : am_sI x q lo (.int a :: st) = some (q, am_sv lo x (.int a), st) := by
  simp only [am_sI, hx, if_true]
theorem ev_sR (x q : Nat) (lo : am_L) (st : List Value) (a : Nat) (hx : x < lo.length) : am_sR x q lo (.ref a :: st) = some (q, am_sv lo x (.ref a), st) := by
  simp only [am_sR, hx, if_true]
theorem ev_inc (a c : Int32) (x q : Nat) (lo : am_L) (st : List Value) : am_inc (some (.int a)) c x q lo st = some (q, am_sv lo x (.int (a + c)), st) := rfl
theorem ev_gf (c k : Nat) (fs : List Value) : am_gf (some (.inr (c, fs))) c k = am_at fs k := by simp only [am_gf, if_true]
theorem ev_pf (c k : Nat) (fs : List Value) (v : Value) (hk : k < fs.length) : am_pf (some (.inr (c, fs))) c k v = some (.inr (c, am_st fs k v)) := by simp only [am_pf, hk, and_self, if_true]
theorem ev_ko (c : Nat) (fs : List Value) : am_ko (some (.inr (c, fs))) = some c := rfl
theorem ev_ri (t n k : Nat) (g : Nat → Int32) (i : Int32) (hi : am_ix i n = some k) : am_ri t (some (.inl (t, n, .inl g))) i = some (.int (g k)) := by simp only [am_ri, hi, if_true]
theorem ev_rq (t n k b : Nat) (g : Nat → Option Nat) (i : Int32) (ht : 2 ≤ t ∧ t < 4) (hi : am_ix i n = some k) (hg : g k = some b) : am_rq (some (.inl (t, n, .inr (.inr (.inr (.inr g)))))) i = some (.ref b) := by simp only [am_rq, hi, ht, and_self, if_true, hg]
theorem ev_wi (t n k : Nat) (g : Nat → Int32) (i v : Int32) (hi : am_ix i n = some k) : am_wi t (some (.inl (t, n, .inl g))) i v = some (.inl (t, n, .inl (upd g k v))) := by simp only [am_wi, hi, if_true]
theorem ev_wq (t n k v : Nat) (g : Nat → Option Nat) (i : Int32) (ev : Option am_E) (ht : 2 ≤ t ∧ t < 4) (hi : am_ix i n = some k) (hv : am_ko ev = some (am_ec t)) : am_wq (some (.inl (t, n, .inr (.inr (.inr (.inr g)))))) i v ev = some (.inl (t, n, .inr (.inr (.inr (.inr (va_up g k (some v))))))) := by simp only [am_wq, hi, ht, hv, and_self, if_true]
theorem ev_ln (t n : Nat) (g : (Nat → Int32) ⊕ (Nat → Int64) ⊕ (Nat → UInt32) ⊕ (Nat → UInt64) ⊕ (Nat → Option Nat)) (ht : t < 4) : am_ln (some (.inl (t, n, g))) = some (nI n) := by simp only [am_ln, ht, if_true]
theorem ev_w1 (z a : Nat) (st : List Value) (e : am_E) (hz : z ≤ a) : am_w1 z a st (some e) = some (st, a, e) := by simp only [am_w1, hz, if_true]
theorem ev_KW (z d j pc a : Nat) (lo : am_L) (st : List Value) (e : am_E) (h : am_H) (r : Option Value) (h' : am_H) : am_KW z d j pc lo (some (st, a, e)) h r h' = am_R z d j pc lo st (am_up h a e) r h' := rfl
theorem ev_KC (z d j x pc : Nat) (lo : am_L) (av st : List Value) (h : am_H) (r : Option Value) (h' : am_H) : am_KC z d j x pc lo (some (av, st)) h r h' = am_CL z d j x av pc lo st h r h' := rfl
theorem ev_k (av st : List Value) (h1 : am_g 8 av = true) (h2 : am_g 8 st = true) : am_k (some (av, st)) = some (av, st) := by simp only [am_k, h1, h2, and_self, if_true]
theorem ev_cv (a x : Nat) (t st : List Value) (h : am_H) (hk : am_ko (h.1 a) = some (am_kl x)) : am_cv (some (.ref a :: t, st)) x h = some (.ref a :: t, st) := by simp only [am_cv, hk, if_true]
theorem ev_cs (a : Nat) (t st : List Value) : am_cs (some (.ref a :: t, st)) = some (.ref a :: t, st) := rfl
theorem ev_ix {k n : Nat} (hk : k < n) (hn : n < 2 ^ 31) : am_ix (nI k) n = some k := by
  have h := nI_in hk hn
  have hc := nI_clamp (n := k) (by omega)
  unfold am_ix
  rw [if_neg h, hc]
theorem ev_pop0 (st acc : List Value) : am_pop 0 st acc = some (acc, st) := rfl
theorem ev_pops (n : Nat) (v : Value) (st acc : List Value) : am_pop (n + 1) (v :: st) acc = am_pop n st (v :: acc) := rfl
