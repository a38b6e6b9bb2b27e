set_option maxRecDepth 100000 in
theorem q1 : meths.all (fun q => decide (lw_tbl[(mWs q).1]? = some (.code (mNm q) (mBy q) (mMl q) (mRt q)))) = true := by decide +kernel
set_option maxRecDepth 100000 in
theorem q2 : meths.all (fun q => decide (lw_tbl[(mWs q).2.1]? = some (.initialized (mNm q).cls))) = true := by decide +kernel
set_option maxRecDepth 100000 in
theorem q3 : meths.all (fun q => (if mKd q = 2 then decide (lw_tbl[(mWs q).2.2.1]? = some (.static (mNm q))) else decide (lw_tbl[(mWs q).2.2.1]? = some (.instanceMethod (mNm q))))) = true := by decide +kernel
set_option maxRecDepth 100000 in
theorem q4 : meths.all (fun q => (if mKd q = 0 then decide (lw_tbl[(mWs q).2.2.2]? = some (.selects (mNm q).cls (mNm q) (mNm q))) else true)) = true := by decide +kernel
set_option maxRecDepth 100000 in
theorem q5 : meths.all (fun q => (if mKd q = 1 then decide ((mNm q).name = "<init>") && decide (mRt q = none) else true)) = true := by decide +kernel
set_option maxRecDepth 100000 in
theorem q6 : meths.all (fun q => decide ((parseMethodDescriptor (mNm q).desc).map (fun d => d.parameters.length) = some (mNa q))) = true := by decide +kernel
set_option maxRecDepth 100000 in
theorem q7 : meths.all (fun q => decide (mMl q ≤ 80)) = true := by decide +kernel
set_option maxRecDepth 100000 in
theorem q8 : meths.all (fun q => plainName (mNm q).cls) = true := by decide +kernel
set_option maxRecDepth 100000 in
theorem q9 : meths.all (fun q => decide (ownN (mOw q) = (mNm q).cls)) = true := by decide +kernel
