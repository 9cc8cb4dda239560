/-- new int[n][k]: the outer array, then n inner ones -/
def gz_als (h : gz_H) (kn : Nat × Nat) : Nat → gz_H
  | 0 => h
  | n + 1 => gz_al (gz_als h kn n) kn
theorem gz_als_1 (h : gz_H) (kn : Nat × Nat) : ∀ n, (gz_als h kn n).1 = h.1 ++ List.replicate n kn
  | 0 => by simp [gz_als]
  | n + 1 => by
    show (gz_als h kn n).1 ++ [kn] = _
    rw [gz_als_1 h kn n, List.append_assoc, List.replicate_succ']
def gz_mn (h : gz_H) (n k : Nat) : gz_H := match gz_als (gz_al h (13, n)) (10, k) n with
  | g => (g.1, g.2.1, g.2.2.1, va_up g.2.2.2 h.1.length (fun i => if i < n then some (h.1.length + 1 + i) else none))
theorem gz_als_ws (G : gz_G) (h : gz_H) (kn : Nat × Nat) : ∀ n, gz_ws G (gz_als h kn n) = gz_ws G h ++ (List.range n).map (fun i => (G.1 + (h.1.length + i), gz_E G kn (fun _ => 0) (fun _ => 0) (fun _ => none)))
  | 0 => by simp [gz_als]
  | n + 1 => by
    show gz_ws G (gz_al (gz_als h kn n) kn) = _
    rw [gz_ws_al, gz_als_ws G h kn n, gz_als_1, List.range_succ, List.map_append, List.append_assoc]
    simp
set_option maxHeartbeats 2000000 in
theorem gz_mna {G : gz_G} {M : gz_M} {B : gz_B} {pc : Nat} {lo st : List Value} {h : gz_H} {Q : Option Value → gz_H → Prop} {n k : Int32} {idx : Nat} (hd : decode M.2.2.1 pc = .ok (.multianewarray idx 2, 4)) (hw : Cond.classLink M.1 idx ("[" ++ (FieldType.array .int).toString) ∈ gz_TB) (hw2 : Cond.arrayClass .int ∈ gz_TB) (hn : ¬ n < 0) (hk : ¬ k < 0) (hN : n.toNatClampNeg ≤ 1000) (hK1 : k.toNatClampNeg ≤ 1000) (hm : h.1.length < 900000)
    (hb : h.1.length + (1 + n.toNatClampNeg) ≤ B.2.1 + B.2.2.2.1 ∧ gz_ss h.1 + (n.toNatClampNeg + n.toNatClampNeg * k.toNatClampNeg) ≤ B.2.2.1 + B.2.2.2.2)
    (kk : gz_Ok G M B (pc + 4) lo (.ref h.1.length :: st) (gz_mn h n.toNatClampNeg k.toNatClampNeg) Q) : gz_Ok G M B pc lo (.int k :: .int n :: st) h Q := by
  sorry
