/-! ===== a run of the small machine is one of the machine ===== -/
theorem mSim_mono {l : Launch} {E : mE} {D : va_G} {tc : Int → ClassId} {O : mO} {j : Nat} {st : mSt} {K1 K2 : mK} (h12 : ∀ r G d, K1 r G d → K2 r G d) (h : mSim l E D tc O j st K1) : mSim l E D tc O j st K2 := by
  intro hj p e s mid args below meth c Q hF hE
  refine h hj p e s mid args below meth c Q hF ⟨?_, ?_, ?_⟩
  · exact fun op v G d H locs cs ss pc ls hk => hE.1 op v G d H locs cs ss pc ls (h12 _ _ _ hk)
  · exact fun ex G d H locs cs ss pc ls S hk => hE.2.1 ex G d H locs cs ss pc ls S (h12 _ _ _ hk)
  · exact fun ex G d H locs cs ss pc ls S q ce hex hk => hE.2.2 ex G d H locs cs ss pc ls S q ce hex (h12 _ _ _ hk)
theorem m_sim {l : Launch} {E : mE} {D : va_G} {tc : Int → ClassId} {O : mO} : ∀ (m : Nat) (st : mSt) (K : mK), mstep O (mSim l E D tc O) m st K → mSim l E D tc O m st K := by
  intro j st K h hj p e s mid args below meth c Q hF hE
  obtain ⟨pc, L, S, cs, ss, G, d⟩ := st
  exact m_step hj hF hE (mstp_mono (B := fun st => mSim l E D tc O j st K) (C := fun j as G d K' => mSim l E D tc O j (ment j as G d) K') (fun st h => h hj p e s mid args below meth c Q hF hE) (fun _ _ _ h => h) (fun j as G d K1 K2 h12 h => mSim_mono h12 h) _ h)
theorem m_simrun {l : Launch} {E : mE} {D : va_G} {tc : Int → ClassId} {O : mO} {m : Nat} {st : mSt} {K : mK} (h : mRun O m st K) : mSim l E D tc O m st K := h _ m_sim
