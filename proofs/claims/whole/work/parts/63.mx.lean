/-! the model: what asks findsRepair -/
theorem MR.fr {σ : SG} {s : Nat → Int32} {F : Nat → Nat → Int32} (hr : MR σ s F) (b : Int32) (f : Nat → Int32) : MR σ (upd s 20 b) (updF F 9 f) := hr
/-- the least number of rows that a repair takes, by trying -/
def frL (σ : SG) : Nat := (frK σ 0 (2 ^ gN σ)).1
theorem frK_b {σ : SG} {b b' : Int32} : ∀ k, (frK σ b k).1 = (frK σ b' k).1
  | 0 => rfl
  | k + 1 => by
    have h := frK_b (σ := σ) (b := b) (b' := b') k
    unfold frK
    rw [h]
    split
    · rfl
    · exact h
section MOX
variable {l : Launch} {θ : e_T} {ph : e_PH} {mo : Nat} {μ : Nat → Nat} {σ : SG} {t : Int32}
theorem w_fewest (htr : l.stackTraces = false) (hm : MP θ ph mo μ σ t) : MC yX12_fewestRemovals cX12_fewestRemovals 1 (some .int) 5 0 0 l θ [.ref mo] ph (nP θ ph mo μ σ 0 (.int (nI (frL σ)))) (fun _ _ => False) := by
  obtain ⟨s, F, hm, hr, rfl⟩ := hm
  refine MC.of htr (by decide) (Nat.le_of_ble_eq_true rfl) ?_
  intro x hX hQ hT
  refine e_aload_n hX 0 iX12_fewestRemovals_0 rfl rfl ?_
  refine e_aload_n hX 0 iX12_fewestRemovals_1 rfl rfl ?_
  refine e_callV hX iX12_fewestRemovals_2 hm.1 (n_findsRepair htr hm hr) rfl rfl ⟨by decide, by decide, by decide, by decide⟩ (Nat.le_of_ble_eq_true rfl) (fun _ _ h => h.elim) (fun v9 ph9 hv9 => ?_)
  obtain ⟨rfl, ⟨f, hm2⟩, hk2⟩ := hv9
  refine e_callV hX iX12_fewestRemovals_5 hm2.1 (n_tells htr hm2 (nI (frK σ (s 20) (2 ^ gN σ)).1)) rfl rfl ⟨by decide, by decide, by decide, by decide⟩ (Nat.le_of_ble_eq_true rfl) (fun _ _ h => h.elim) (fun v8 ph8 hv8 => ?_)
  obtain ⟨rfl, e8⟩ := hv8
  subst ph8
  exact e_iret hX hQ iX12_fewestRemovals_8 rfl (by decide) (by decide) (nP.mk (hm2.told (hr.fr _ f) hk2 0) rfl (by unfold frL; rw [frK_b (b' := 0)]))
theorem w_fewestT (htr : l.stackTraces = false) (hm : MP θ ph mo μ σ t) : MC yX12_fewestRemovalsByTrying cX12_fewestRemovalsByTrying 1 (some .int) 5 0 0 l θ [.ref mo] ph (nP θ ph mo μ σ 0 (.int (nI (frL σ)))) (fun _ _ => False) := by
  obtain ⟨s, F, hm, hr, rfl⟩ := hm
  refine MC.of htr (by decide) (Nat.le_of_ble_eq_true rfl) ?_
  intro x hX hQ hT
  refine e_aload_n hX 0 iX12_fewestRemovalsByTrying_0 rfl rfl ?_
  refine e_aload_n hX 0 iX12_fewestRemovalsByTrying_1 rfl rfl ?_
  refine e_callV hX iX12_fewestRemovalsByTrying_2 hm.1 (n_findsRepair htr hm hr) rfl rfl ⟨by decide, by decide, by decide, by decide⟩ (Nat.le_of_ble_eq_true rfl) (fun _ _ h => h.elim) (fun v9 ph9 hv9 => ?_)
  obtain ⟨rfl, ⟨f, hm2⟩, hk2⟩ := hv9
  refine e_callV hX iX12_fewestRemovalsByTrying_5 hm2.1 (n_tells htr hm2 (nI (frK σ (s 20) (2 ^ gN σ)).1)) rfl rfl ⟨by decide, by decide, by decide, by decide⟩ (Nat.le_of_ble_eq_true rfl) (fun _ _ h => h.elim) (fun v8 ph8 hv8 => ?_)
  obtain ⟨rfl, e8⟩ := hv8
  subst ph8
  exact e_iret hX hQ iX12_fewestRemovalsByTrying_8 rfl (by decide) (by decide) (nP.mk (hm2.told (hr.fr _ f) hk2 0) rfl (by unfold frL; rw [frK_b (b' := 0)]))
end MOX
