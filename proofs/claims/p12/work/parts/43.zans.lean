/-! answers that are the same -/
theorem ans_document {u : St} (h : Inv u) (d q : Int32) : (docX u d q).1 = (docM (docX u d q).2 d q).1 := (inv_doc h d q).2
theorem ans_remove {u : St} (h : Inv u) (d : Int32) : (remX u d).1 = (remM (remX u d).2 d).1 := (inv_rem h d).2
theorem ans_term {u : St} (h : Inv u) (d k x : Int32) : (termX u d k x).1 = (termM (termX u d k x).2 d k x).1 := (inv_term h d k x).2
theorem ans_query {u : St} (h : Inv u) (q x : Int32) : (qryX u q x).1 = (qryM (qryX u q x).2 q x).1 := (inv_qry h q x).2
theorem ans_judge {u : St} (h : Inv u) (q d x : Int32) : (judX u q d x).1 = (judM (judX u q d x).2 q d x).1 := (inv_jud h q d x).2
theorem ans_depth {u : St} (h : Inv u) (n : Int32) : (depX u n).1 = (depM (depX u n).2 n).1 := (inv_dep h n).2
