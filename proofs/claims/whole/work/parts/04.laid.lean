theorem kw_57 : (Jvm.Cond.laysFinal "ProofDesk$Pile" "ProofDesk$Pile" "width" "I") ∈ zw := List.mem_filter.mpr ⟨List.mem_append_right _ (List.mem_of_getElem? (i := 57) (by decide +kernel)), by decide +kernel⟩
theorem kw_59 : (Jvm.Cond.lays "ProofDesk$Pile" "ProofDesk$Pile" "cells" "[I") ∈ zw := List.mem_filter.mpr ⟨List.mem_append_right _ (List.mem_of_getElem? (i := 59) (by decide +kernel)), by decide +kernel⟩
theorem kw_61 : (Jvm.Cond.lays "ProofDesk$Pile" "ProofDesk$Pile" "count" "I") ∈ zw := List.mem_filter.mpr ⟨List.mem_append_right _ (List.mem_of_getElem? (i := 61) (by decide +kernel)), by decide +kernel⟩
theorem kw_73 : (Jvm.Cond.laysFinal "ProofDesk$Ledger" "ProofDesk$Ledger" "verdicts" "LProofDesk$Pile;") ∈ zw := List.mem_filter.mpr ⟨List.mem_append_right _ (List.mem_of_getElem? (i := 73) (by decide +kernel)), by decide +kernel⟩
theorem kw_75 : (Jvm.Cond.lays "ProofDesk$Ledger" "ProofDesk$Ledger" "fuel" "I") ∈ zw := List.mem_filter.mpr ⟨List.mem_append_right _ (List.mem_of_getElem? (i := 75) (by decide +kernel)), by decide +kernel⟩
theorem kw_77 : (Jvm.Cond.lays "ProofDesk$Ledger" "ProofDesk$Ledger" "cost" "I") ∈ zw := List.mem_filter.mpr ⟨List.mem_append_right _ (List.mem_of_getElem? (i := 77) (by decide +kernel)), by decide +kernel⟩
theorem kw_79 : (Jvm.Cond.lays "ProofDesk$Ledger" "ProofDesk$Ledger" "outcome" "I") ∈ zw := List.mem_filter.mpr ⟨List.mem_append_right _ (List.mem_of_getElem? (i := 79) (by decide +kernel)), by decide +kernel⟩
theorem kw_81 : (Jvm.Cond.lays "ProofDesk$Ledger" "ProofDesk$Ledger" "reason" "I") ∈ zw := List.mem_filter.mpr ⟨List.mem_append_right _ (List.mem_of_getElem? (i := 81) (by decide +kernel)), by decide +kernel⟩
theorem kw_83 : (Jvm.Cond.lays "ProofDesk$Ledger" "ProofDesk$Ledger" "place" "I") ∈ zw := List.mem_filter.mpr ⟨List.mem_append_right _ (List.mem_of_getElem? (i := 83) (by decide +kernel)), by decide +kernel⟩
theorem kw_150 : (Jvm.Cond.lays "ProofDesk$Names" "ProofDesk$Names" "letters" "[B") ∈ zw := List.mem_filter.mpr ⟨List.mem_append_right _ (List.mem_of_getElem? (i := 150) (by decide +kernel)), by decide +kernel⟩
theorem kw_152 : (Jvm.Cond.lays "ProofDesk$Names" "ProofDesk$Names" "letterCount" "I") ∈ zw := List.mem_filter.mpr ⟨List.mem_append_right _ (List.mem_of_getElem? (i := 152) (by decide +kernel)), by decide +kernel⟩
theorem kw_154 : (Jvm.Cond.lays "ProofDesk$Names" "ProofDesk$Names" "rows" "[I") ∈ zw := List.mem_filter.mpr ⟨List.mem_append_right _ (List.mem_of_getElem? (i := 154) (by decide +kernel)), by decide +kernel⟩
theorem kw_156 : (Jvm.Cond.laysFinal "ProofDesk$Names" "ProofDesk$Names" "buckets" "[I") ∈ zw := List.mem_filter.mpr ⟨List.mem_append_right _ (List.mem_of_getElem? (i := 156) (by decide +kernel)), by decide +kernel⟩
theorem kw_158 : (Jvm.Cond.lays "ProofDesk$Names" "ProofDesk$Names" "count" "I") ∈ zw := List.mem_filter.mpr ⟨List.mem_append_right _ (List.mem_of_getElem? (i := 158) (by decide +kernel)), by decide +kernel⟩
theorem kw_160 : (Jvm.Cond.lays "ProofDesk$Names" "ProofDesk$Names" "serial" "I") ∈ zw := List.mem_filter.mpr ⟨List.mem_append_right _ (List.mem_of_getElem? (i := 160) (by decide +kernel)), by decide +kernel⟩
theorem kw_274 : (Jvm.Cond.laysFinal "ProofDesk$Lexer" "ProofDesk$Lexer" "names" "LProofDesk$Names;") ∈ zw := List.mem_filter.mpr ⟨List.mem_append_right _ (List.mem_of_getElem? (i := 274) (by decide +kernel)), by decide +kernel⟩
theorem kw_276 : (Jvm.Cond.lays "ProofDesk$Lexer" "ProofDesk$Lexer" "text" "[B") ∈ zw := List.mem_filter.mpr ⟨List.mem_append_right _ (List.mem_of_getElem? (i := 276) (by decide +kernel)), by decide +kernel⟩
theorem kw_278 : (Jvm.Cond.lays "ProofDesk$Lexer" "ProofDesk$Lexer" "length" "I") ∈ zw := List.mem_filter.mpr ⟨List.mem_append_right _ (List.mem_of_getElem? (i := 278) (by decide +kernel)), by decide +kernel⟩
theorem kw_280 : (Jvm.Cond.lays "ProofDesk$Lexer" "ProofDesk$Lexer" "at" "I") ∈ zw := List.mem_filter.mpr ⟨List.mem_append_right _ (List.mem_of_getElem? (i := 280) (by decide +kernel)), by decide +kernel⟩
theorem kw_282 : (Jvm.Cond.lays "ProofDesk$Lexer" "ProofDesk$Lexer" "token" "I") ∈ zw := List.mem_filter.mpr ⟨List.mem_append_right _ (List.mem_of_getElem? (i := 282) (by decide +kernel)), by decide +kernel⟩
theorem kw_284 : (Jvm.Cond.lays "ProofDesk$Lexer" "ProofDesk$Lexer" "start" "I") ∈ zw := List.mem_filter.mpr ⟨List.mem_append_right _ (List.mem_of_getElem? (i := 284) (by decide +kernel)), by decide +kernel⟩
theorem kw_286 : (Jvm.Cond.lays "ProofDesk$Lexer" "ProofDesk$Lexer" "name" "I") ∈ zw := List.mem_filter.mpr ⟨List.mem_append_right _ (List.mem_of_getElem? (i := 286) (by decide +kernel)), by decide +kernel⟩
theorem kw_288 : (Jvm.Cond.lays "ProofDesk$Lexer" "ProofDesk$Lexer" "level" "I") ∈ zw := List.mem_filter.mpr ⟨List.mem_append_right _ (List.mem_of_getElem? (i := 288) (by decide +kernel)), by decide +kernel⟩
theorem kw_188 : (Jvm.Cond.lays "ProofDesk$Terms" "ProofDesk$Terms" "cells" "[I") ∈ zw := List.mem_filter.mpr ⟨List.mem_append_right _ (List.mem_of_getElem? (i := 188) (by decide +kernel)), by decide +kernel⟩
theorem kw_190 : (Jvm.Cond.lays "ProofDesk$Terms" "ProofDesk$Terms" "top" "I") ∈ zw := List.mem_filter.mpr ⟨List.mem_append_right _ (List.mem_of_getElem? (i := 190) (by decide +kernel)), by decide +kernel⟩
theorem kw_192 : (Jvm.Cond.lays "ProofDesk$Terms" "ProofDesk$Terms" "rows" "[I") ∈ zw := List.mem_filter.mpr ⟨List.mem_append_right _ (List.mem_of_getElem? (i := 192) (by decide +kernel)), by decide +kernel⟩
theorem kw_194 : (Jvm.Cond.lays "ProofDesk$Terms" "ProofDesk$Terms" "binders" "I") ∈ zw := List.mem_filter.mpr ⟨List.mem_append_right _ (List.mem_of_getElem? (i := 194) (by decide +kernel)), by decide +kernel⟩
theorem kw_196 : (Jvm.Cond.lays "ProofDesk$Terms" "ProofDesk$Terms" "kept" "I") ∈ zw := List.mem_filter.mpr ⟨List.mem_append_right _ (List.mem_of_getElem? (i := 196) (by decide +kernel)), by decide +kernel⟩
theorem kw_198 : (Jvm.Cond.lays "ProofDesk$Terms" "ProofDesk$Terms" "keptBinders" "I") ∈ zw := List.mem_filter.mpr ⟨List.mem_append_right _ (List.mem_of_getElem? (i := 198) (by decide +kernel)), by decide +kernel⟩
theorem kw_200 : (Jvm.Cond.lays "ProofDesk$Terms" "ProofDesk$Terms" "block" "I") ∈ zw := List.mem_filter.mpr ⟨List.mem_append_right _ (List.mem_of_getElem? (i := 200) (by decide +kernel)), by decide +kernel⟩
theorem kw_202 : (Jvm.Cond.lays "ProofDesk$Terms" "ProofDesk$Terms" "blockBinders" "I") ∈ zw := List.mem_filter.mpr ⟨List.mem_append_right _ (List.mem_of_getElem? (i := 202) (by decide +kernel)), by decide +kernel⟩
theorem kw_204 : (Jvm.Cond.laysFinal "ProofDesk$Terms" "ProofDesk$Terms" "stack" "LProofDesk$Pile;") ∈ zw := List.mem_filter.mpr ⟨List.mem_append_right _ (List.mem_of_getElem? (i := 204) (by decide +kernel)), by decide +kernel⟩
theorem kw_230 : (Jvm.Cond.laysFinal "ProofDesk$Shelf" "ProofDesk$Shelf" "names" "LProofDesk$Names;") ∈ zw := List.mem_filter.mpr ⟨List.mem_append_right _ (List.mem_of_getElem? (i := 230) (by decide +kernel)), by decide +kernel⟩
theorem kw_232 : (Jvm.Cond.laysFinal "ProofDesk$Shelf" "ProofDesk$Shelf" "terms" "LProofDesk$Terms;") ∈ zw := List.mem_filter.mpr ⟨List.mem_append_right _ (List.mem_of_getElem? (i := 232) (by decide +kernel)), by decide +kernel⟩
theorem kw_234 : (Jvm.Cond.lays "ProofDesk$Shelf" "ProofDesk$Shelf" "rows" "[I") ∈ zw := List.mem_filter.mpr ⟨List.mem_append_right _ (List.mem_of_getElem? (i := 234) (by decide +kernel)), by decide +kernel⟩
theorem kw_236 : (Jvm.Cond.lays "ProofDesk$Shelf" "ProofDesk$Shelf" "count" "I") ∈ zw := List.mem_filter.mpr ⟨List.mem_append_right _ (List.mem_of_getElem? (i := 236) (by decide +kernel)), by decide +kernel⟩
theorem kw_238 : (Jvm.Cond.lays "ProofDesk$Shelf" "ProofDesk$Shelf" "pending" "I") ∈ zw := List.mem_filter.mpr ⟨List.mem_append_right _ (List.mem_of_getElem? (i := 238) (by decide +kernel)), by decide +kernel⟩
theorem kw_240 : (Jvm.Cond.lays "ProofDesk$Shelf" "ProofDesk$Shelf" "keptNames" "I") ∈ zw := List.mem_filter.mpr ⟨List.mem_append_right _ (List.mem_of_getElem? (i := 240) (by decide +kernel)), by decide +kernel⟩
theorem kw_242 : (Jvm.Cond.laysFinal "ProofDesk$Shelf" "ProofDesk$Shelf" "calls" "LProofDesk$Pile;") ∈ zw := List.mem_filter.mpr ⟨List.mem_append_right _ (List.mem_of_getElem? (i := 242) (by decide +kernel)), by decide +kernel⟩
theorem kw_244 : (Jvm.Cond.lays "ProofDesk$Shelf" "ProofDesk$Shelf" "reached" "[Z") ∈ zw := List.mem_filter.mpr ⟨List.mem_append_right _ (List.mem_of_getElem? (i := 244) (by decide +kernel)), by decide +kernel⟩
theorem kw_246 : (Jvm.Cond.lays "ProofDesk$Shelf" "ProofDesk$Shelf" "searched" "[Z") ∈ zw := List.mem_filter.mpr ⟨List.mem_append_right _ (List.mem_of_getElem? (i := 246) (by decide +kernel)), by decide +kernel⟩
theorem kw_248 : (Jvm.Cond.laysFinal "ProofDesk$Shelf" "ProofDesk$Shelf" "open" "LProofDesk$Pile;") ∈ zw := List.mem_filter.mpr ⟨List.mem_append_right _ (List.mem_of_getElem? (i := 248) (by decide +kernel)), by decide +kernel⟩
theorem kw_250 : (Jvm.Cond.laysFinal "ProofDesk$Shelf" "ProofDesk$Shelf" "list" "LProofDesk$Pile;") ∈ zw := List.mem_filter.mpr ⟨List.mem_append_right _ (List.mem_of_getElem? (i := 250) (by decide +kernel)), by decide +kernel⟩
theorem kw_329 : (Jvm.Cond.laysFinal "ProofDesk$Parser" "ProofDesk$Parser" "lexer" "LProofDesk$Lexer;") ∈ zw := List.mem_filter.mpr ⟨List.mem_append_right _ (List.mem_of_getElem? (i := 329) (by decide +kernel)), by decide +kernel⟩
theorem kw_331 : (Jvm.Cond.laysFinal "ProofDesk$Parser" "ProofDesk$Parser" "names" "LProofDesk$Names;") ∈ zw := List.mem_filter.mpr ⟨List.mem_append_right _ (List.mem_of_getElem? (i := 331) (by decide +kernel)), by decide +kernel⟩
theorem kw_333 : (Jvm.Cond.laysFinal "ProofDesk$Parser" "ProofDesk$Parser" "terms" "LProofDesk$Terms;") ∈ zw := List.mem_filter.mpr ⟨List.mem_append_right _ (List.mem_of_getElem? (i := 333) (by decide +kernel)), by decide +kernel⟩
theorem kw_335 : (Jvm.Cond.laysFinal "ProofDesk$Parser" "ProofDesk$Parser" "shelf" "LProofDesk$Shelf;") ∈ zw := List.mem_filter.mpr ⟨List.mem_append_right _ (List.mem_of_getElem? (i := 335) (by decide +kernel)), by decide +kernel⟩
theorem kw_337 : (Jvm.Cond.laysFinal "ProofDesk$Parser" "ProofDesk$Parser" "ledger" "LProofDesk$Ledger;") ∈ zw := List.mem_filter.mpr ⟨List.mem_append_right _ (List.mem_of_getElem? (i := 337) (by decide +kernel)), by decide +kernel⟩
theorem kw_339 : (Jvm.Cond.laysFinal "ProofDesk$Parser" "ProofDesk$Parser" "frames" "LProofDesk$Pile;") ∈ zw := List.mem_filter.mpr ⟨List.mem_append_right _ (List.mem_of_getElem? (i := 339) (by decide +kernel)), by decide +kernel⟩
theorem kw_341 : (Jvm.Cond.laysFinal "ProofDesk$Parser" "ProofDesk$Parser" "waiting" "LProofDesk$Pile;") ∈ zw := List.mem_filter.mpr ⟨List.mem_append_right _ (List.mem_of_getElem? (i := 341) (by decide +kernel)), by decide +kernel⟩
theorem kw_343 : (Jvm.Cond.lays "ProofDesk$Parser" "ProofDesk$Parser" "mode" "I") ∈ zw := List.mem_filter.mpr ⟨List.mem_append_right _ (List.mem_of_getElem? (i := 343) (by decide +kernel)), by decide +kernel⟩
theorem kw_345 : (Jvm.Cond.lays "ProofDesk$Parser" "ProofDesk$Parser" "depth" "I") ∈ zw := List.mem_filter.mpr ⟨List.mem_append_right _ (List.mem_of_getElem? (i := 345) (by decide +kernel)), by decide +kernel⟩
theorem kw_347 : (Jvm.Cond.lays "ProofDesk$Parser" "ProofDesk$Parser" "term" "I") ∈ zw := List.mem_filter.mpr ⟨List.mem_append_right _ (List.mem_of_getElem? (i := 347) (by decide +kernel)), by decide +kernel⟩
theorem kw_349 : (Jvm.Cond.lays "ProofDesk$Parser" "ProofDesk$Parser" "application" "I") ∈ zw := List.mem_filter.mpr ⟨List.mem_append_right _ (List.mem_of_getElem? (i := 349) (by decide +kernel)), by decide +kernel⟩
theorem kw_351 : (Jvm.Cond.lays "ProofDesk$Parser" "ProofDesk$Parser" "place" "I") ∈ zw := List.mem_filter.mpr ⟨List.mem_append_right _ (List.mem_of_getElem? (i := 351) (by decide +kernel)), by decide +kernel⟩
theorem kw_353 : (Jvm.Cond.lays "ProofDesk$Parser" "ProofDesk$Parser" "subject" "I") ∈ zw := List.mem_filter.mpr ⟨List.mem_append_right _ (List.mem_of_getElem? (i := 353) (by decide +kernel)), by decide +kernel⟩
theorem kw_355 : (Jvm.Cond.lays "ProofDesk$Parser" "ProofDesk$Parser" "word" "I") ∈ zw := List.mem_filter.mpr ⟨List.mem_append_right _ (List.mem_of_getElem? (i := 355) (by decide +kernel)), by decide +kernel⟩
theorem kw_357 : (Jvm.Cond.lays "ProofDesk$Parser" "ProofDesk$Parser" "start" "I") ∈ zw := List.mem_filter.mpr ⟨List.mem_append_right _ (List.mem_of_getElem? (i := 357) (by decide +kernel)), by decide +kernel⟩
theorem kw_359 : (Jvm.Cond.lays "ProofDesk$Parser" "ProofDesk$Parser" "name" "I") ∈ zw := List.mem_filter.mpr ⟨List.mem_append_right _ (List.mem_of_getElem? (i := 359) (by decide +kernel)), by decide +kernel⟩
theorem kw_361 : (Jvm.Cond.laysFinal "ProofDesk$Parser" "ProofDesk$Parser" "bound" "LProofDesk$Pile;") ∈ zw := List.mem_filter.mpr ⟨List.mem_append_right _ (List.mem_of_getElem? (i := 361) (by decide +kernel)), by decide +kernel⟩
theorem kw_363 : (Jvm.Cond.lays "ProofDesk$Parser" "ProofDesk$Parser" "told" "I") ∈ zw := List.mem_filter.mpr ⟨List.mem_append_right _ (List.mem_of_getElem? (i := 363) (by decide +kernel)), by decide +kernel⟩
theorem kw_365 : (Jvm.Cond.lays "ProofDesk$Parser" "ProofDesk$Parser" "value" "I") ∈ zw := List.mem_filter.mpr ⟨List.mem_append_right _ (List.mem_of_getElem? (i := 365) (by decide +kernel)), by decide +kernel⟩
theorem kw_367 : (Jvm.Cond.laysFinal "ProofDesk$Parser" "ProofDesk$Parser" "constructors" "LProofDesk$Pile;") ∈ zw := List.mem_filter.mpr ⟨List.mem_append_right _ (List.mem_of_getElem? (i := 367) (by decide +kernel)), by decide +kernel⟩
theorem kw_491 : (Jvm.Cond.laysFinal "ProofDesk$Reducer" "ProofDesk$Reducer" "terms" "LProofDesk$Terms;") ∈ zw := List.mem_filter.mpr ⟨List.mem_append_right _ (List.mem_of_getElem? (i := 491) (by decide +kernel)), by decide +kernel⟩
theorem kw_493 : (Jvm.Cond.laysFinal "ProofDesk$Reducer" "ProofDesk$Reducer" "shelf" "LProofDesk$Shelf;") ∈ zw := List.mem_filter.mpr ⟨List.mem_append_right _ (List.mem_of_getElem? (i := 493) (by decide +kernel)), by decide +kernel⟩
theorem kw_495 : (Jvm.Cond.laysFinal "ProofDesk$Reducer" "ProofDesk$Reducer" "ledger" "LProofDesk$Ledger;") ∈ zw := List.mem_filter.mpr ⟨List.mem_append_right _ (List.mem_of_getElem? (i := 495) (by decide +kernel)), by decide +kernel⟩
theorem kw_497 : (Jvm.Cond.lays "ProofDesk$Reducer" "ProofDesk$Reducer" "heap" "[I") ∈ zw := List.mem_filter.mpr ⟨List.mem_append_right _ (List.mem_of_getElem? (i := 497) (by decide +kernel)), by decide +kernel⟩
theorem kw_499 : (Jvm.Cond.lays "ProofDesk$Reducer" "ProofDesk$Reducer" "heapTop" "I") ∈ zw := List.mem_filter.mpr ⟨List.mem_append_right _ (List.mem_of_getElem? (i := 499) (by decide +kernel)), by decide +kernel⟩
theorem kw_501 : (Jvm.Cond.laysFinal "ProofDesk$Reducer" "ProofDesk$Reducer" "tasks" "LProofDesk$Pile;") ∈ zw := List.mem_filter.mpr ⟨List.mem_append_right _ (List.mem_of_getElem? (i := 501) (by decide +kernel)), by decide +kernel⟩
theorem kw_503 : (Jvm.Cond.laysFinal "ProofDesk$Reducer" "ProofDesk$Reducer" "results" "LProofDesk$Pile;") ∈ zw := List.mem_filter.mpr ⟨List.mem_append_right _ (List.mem_of_getElem? (i := 503) (by decide +kernel)), by decide +kernel⟩
theorem kw_505 : (Jvm.Cond.laysFinal "ProofDesk$Reducer" "ProofDesk$Reducer" "frames" "LProofDesk$Pile;") ∈ zw := List.mem_filter.mpr ⟨List.mem_append_right _ (List.mem_of_getElem? (i := 505) (by decide +kernel)), by decide +kernel⟩
theorem kw_507 : (Jvm.Cond.laysFinal "ProofDesk$Reducer" "ProofDesk$Reducer" "parts" "LProofDesk$Pile;") ∈ zw := List.mem_filter.mpr ⟨List.mem_append_right _ (List.mem_of_getElem? (i := 507) (by decide +kernel)), by decide +kernel⟩
theorem kw_509 : (Jvm.Cond.lays "ProofDesk$Reducer" "ProofDesk$Reducer" "mode" "I") ∈ zw := List.mem_filter.mpr ⟨List.mem_append_right _ (List.mem_of_getElem? (i := 509) (by decide +kernel)), by decide +kernel⟩
theorem kw_511 : (Jvm.Cond.lays "ProofDesk$Reducer" "ProofDesk$Reducer" "term" "I") ∈ zw := List.mem_filter.mpr ⟨List.mem_append_right _ (List.mem_of_getElem? (i := 511) (by decide +kernel)), by decide +kernel⟩
theorem kw_513 : (Jvm.Cond.lays "ProofDesk$Reducer" "ProofDesk$Reducer" "scope" "I") ∈ zw := List.mem_filter.mpr ⟨List.mem_append_right _ (List.mem_of_getElem? (i := 513) (by decide +kernel)), by decide +kernel⟩
theorem kw_515 : (Jvm.Cond.lays "ProofDesk$Reducer" "ProofDesk$Reducer" "arguments" "I") ∈ zw := List.mem_filter.mpr ⟨List.mem_append_right _ (List.mem_of_getElem? (i := 515) (by decide +kernel)), by decide +kernel⟩
theorem kw_447 : (Jvm.Cond.laysFinal "ProofDesk$Typer" "ProofDesk$Typer" "terms" "LProofDesk$Terms;") ∈ zw := List.mem_filter.mpr ⟨List.mem_append_right _ (List.mem_of_getElem? (i := 447) (by decide +kernel)), by decide +kernel⟩
theorem kw_449 : (Jvm.Cond.laysFinal "ProofDesk$Typer" "ProofDesk$Typer" "shelf" "LProofDesk$Shelf;") ∈ zw := List.mem_filter.mpr ⟨List.mem_append_right _ (List.mem_of_getElem? (i := 449) (by decide +kernel)), by decide +kernel⟩
theorem kw_451 : (Jvm.Cond.laysFinal "ProofDesk$Typer" "ProofDesk$Typer" "ledger" "LProofDesk$Ledger;") ∈ zw := List.mem_filter.mpr ⟨List.mem_append_right _ (List.mem_of_getElem? (i := 451) (by decide +kernel)), by decide +kernel⟩
theorem kw_453 : (Jvm.Cond.laysFinal "ProofDesk$Typer" "ProofDesk$Typer" "tasks" "LProofDesk$Pile;") ∈ zw := List.mem_filter.mpr ⟨List.mem_append_right _ (List.mem_of_getElem? (i := 453) (by decide +kernel)), by decide +kernel⟩
theorem kw_455 : (Jvm.Cond.lays "ProofDesk$Typer" "ProofDesk$Typer" "task" "I") ∈ zw := List.mem_filter.mpr ⟨List.mem_append_right _ (List.mem_of_getElem? (i := 455) (by decide +kernel)), by decide +kernel⟩
theorem kw_457 : (Jvm.Cond.lays "ProofDesk$Typer" "ProofDesk$Typer" "subject" "I") ∈ zw := List.mem_filter.mpr ⟨List.mem_append_right _ (List.mem_of_getElem? (i := 457) (by decide +kernel)), by decide +kernel⟩
theorem kw_459 : (Jvm.Cond.lays "ProofDesk$Typer" "ProofDesk$Typer" "object" "I") ∈ zw := List.mem_filter.mpr ⟨List.mem_append_right _ (List.mem_of_getElem? (i := 459) (by decide +kernel)), by decide +kernel⟩
theorem kw_461 : (Jvm.Cond.laysFinal "ProofDesk$Typer" "ProofDesk$Typer" "results" "LProofDesk$Pile;") ∈ zw := List.mem_filter.mpr ⟨List.mem_append_right _ (List.mem_of_getElem? (i := 461) (by decide +kernel)), by decide +kernel⟩
theorem kw_463 : (Jvm.Cond.laysFinal "ProofDesk$Typer" "ProofDesk$Typer" "pairs" "LProofDesk$Pile;") ∈ zw := List.mem_filter.mpr ⟨List.mem_append_right _ (List.mem_of_getElem? (i := 463) (by decide +kernel)), by decide +kernel⟩
theorem kw_465 : (Jvm.Cond.lays "ProofDesk$Typer" "ProofDesk$Typer" "leftLinks" "[I") ∈ zw := List.mem_filter.mpr ⟨List.mem_append_right _ (List.mem_of_getElem? (i := 465) (by decide +kernel)), by decide +kernel⟩
theorem kw_467 : (Jvm.Cond.lays "ProofDesk$Typer" "ProofDesk$Typer" "rightLinks" "[I") ∈ zw := List.mem_filter.mpr ⟨List.mem_append_right _ (List.mem_of_getElem? (i := 467) (by decide +kernel)), by decide +kernel⟩
theorem kw_535 : (Jvm.Cond.laysFinal "ProofDesk$Declarer" "ProofDesk$Declarer" "declaration" "LProofDesk$Parser;") ∈ zw := List.mem_filter.mpr ⟨List.mem_append_right _ (List.mem_of_getElem? (i := 535) (by decide +kernel)), by decide +kernel⟩
theorem kw_537 : (Jvm.Cond.laysFinal "ProofDesk$Declarer" "ProofDesk$Declarer" "typer" "LProofDesk$Typer;") ∈ zw := List.mem_filter.mpr ⟨List.mem_append_right _ (List.mem_of_getElem? (i := 537) (by decide +kernel)), by decide +kernel⟩
theorem kw_539 : (Jvm.Cond.laysFinal "ProofDesk$Declarer" "ProofDesk$Declarer" "reducer" "LProofDesk$Reducer;") ∈ zw := List.mem_filter.mpr ⟨List.mem_append_right _ (List.mem_of_getElem? (i := 539) (by decide +kernel)), by decide +kernel⟩
theorem kw_541 : (Jvm.Cond.laysFinal "ProofDesk$Declarer" "ProofDesk$Declarer" "printer" "LProofDesk$Printer;") ∈ zw := List.mem_filter.mpr ⟨List.mem_append_right _ (List.mem_of_getElem? (i := 541) (by decide +kernel)), by decide +kernel⟩
theorem kw_543 : (Jvm.Cond.laysFinal "ProofDesk$Declarer" "ProofDesk$Declarer" "terms" "LProofDesk$Terms;") ∈ zw := List.mem_filter.mpr ⟨List.mem_append_right _ (List.mem_of_getElem? (i := 543) (by decide +kernel)), by decide +kernel⟩
theorem kw_545 : (Jvm.Cond.laysFinal "ProofDesk$Declarer" "ProofDesk$Declarer" "shelf" "LProofDesk$Shelf;") ∈ zw := List.mem_filter.mpr ⟨List.mem_append_right _ (List.mem_of_getElem? (i := 545) (by decide +kernel)), by decide +kernel⟩
theorem kw_547 : (Jvm.Cond.laysFinal "ProofDesk$Declarer" "ProofDesk$Declarer" "ledger" "LProofDesk$Ledger;") ∈ zw := List.mem_filter.mpr ⟨List.mem_append_right _ (List.mem_of_getElem? (i := 547) (by decide +kernel)), by decide +kernel⟩
theorem kw_549 : (Jvm.Cond.laysFinal "ProofDesk$Declarer" "ProofDesk$Declarer" "telescope" "LProofDesk$Pile;") ∈ zw := List.mem_filter.mpr ⟨List.mem_append_right _ (List.mem_of_getElem? (i := 549) (by decide +kernel)), by decide +kernel⟩
theorem kw_551 : (Jvm.Cond.lays "ProofDesk$Declarer" "ProofDesk$Declarer" "family" "I") ∈ zw := List.mem_filter.mpr ⟨List.mem_append_right _ (List.mem_of_getElem? (i := 551) (by decide +kernel)), by decide +kernel⟩
theorem kw_553 : (Jvm.Cond.lays "ProofDesk$Declarer" "ProofDesk$Declarer" "familyLevel" "I") ∈ zw := List.mem_filter.mpr ⟨List.mem_append_right _ (List.mem_of_getElem? (i := 553) (by decide +kernel)), by decide +kernel⟩
theorem kw_555 : (Jvm.Cond.lays "ProofDesk$Declarer" "ProofDesk$Declarer" "onlyProofs" "Z") ∈ zw := List.mem_filter.mpr ⟨List.mem_append_right _ (List.mem_of_getElem? (i := 555) (by decide +kernel)), by decide +kernel⟩
theorem kw_394 : (Jvm.Cond.laysFinal "ProofDesk$Printer" "ProofDesk$Printer" "names" "LProofDesk$Names;") ∈ zw := List.mem_filter.mpr ⟨List.mem_append_right _ (List.mem_of_getElem? (i := 394) (by decide +kernel)), by decide +kernel⟩
theorem kw_396 : (Jvm.Cond.laysFinal "ProofDesk$Printer" "ProofDesk$Printer" "terms" "LProofDesk$Terms;") ∈ zw := List.mem_filter.mpr ⟨List.mem_append_right _ (List.mem_of_getElem? (i := 396) (by decide +kernel)), by decide +kernel⟩
theorem kw_398 : (Jvm.Cond.laysFinal "ProofDesk$Printer" "ProofDesk$Printer" "shelf" "LProofDesk$Shelf;") ∈ zw := List.mem_filter.mpr ⟨List.mem_append_right _ (List.mem_of_getElem? (i := 398) (by decide +kernel)), by decide +kernel⟩
theorem kw_400 : (Jvm.Cond.lays "ProofDesk$Printer" "ProofDesk$Printer" "sheet" "[B") ∈ zw := List.mem_filter.mpr ⟨List.mem_append_right _ (List.mem_of_getElem? (i := 400) (by decide +kernel)), by decide +kernel⟩
theorem kw_402 : (Jvm.Cond.lays "ProofDesk$Printer" "ProofDesk$Printer" "length" "I") ∈ zw := List.mem_filter.mpr ⟨List.mem_append_right _ (List.mem_of_getElem? (i := 402) (by decide +kernel)), by decide +kernel⟩
theorem kw_404 : (Jvm.Cond.lays "ProofDesk$Printer" "ProofDesk$Printer" "full" "Z") ∈ zw := List.mem_filter.mpr ⟨List.mem_append_right _ (List.mem_of_getElem? (i := 404) (by decide +kernel)), by decide +kernel⟩
theorem kw_406 : (Jvm.Cond.laysFinal "ProofDesk$Printer" "ProofDesk$Printer" "tasks" "LProofDesk$Pile;") ∈ zw := List.mem_filter.mpr ⟨List.mem_append_right _ (List.mem_of_getElem? (i := 406) (by decide +kernel)), by decide +kernel⟩
theorem kw_408 : (Jvm.Cond.laysFinal "ProofDesk$Printer" "ProofDesk$Printer" "used" "LProofDesk$Pile;") ∈ zw := List.mem_filter.mpr ⟨List.mem_append_right _ (List.mem_of_getElem? (i := 408) (by decide +kernel)), by decide +kernel⟩
theorem kw_410 : (Jvm.Cond.lays "ProofDesk$Printer" "ProofDesk$Printer" "binderCount" "I") ∈ zw := List.mem_filter.mpr ⟨List.mem_append_right _ (List.mem_of_getElem? (i := 410) (by decide +kernel)), by decide +kernel⟩
theorem kw_412 : (Jvm.Cond.lays "ProofDesk$Printer" "ProofDesk$Printer" "scopes" "[I") ∈ zw := List.mem_filter.mpr ⟨List.mem_append_right _ (List.mem_of_getElem? (i := 412) (by decide +kernel)), by decide +kernel⟩
theorem kw_414 : (Jvm.Cond.laysFinal "ProofDesk$Printer" "ProofDesk$Printer" "spelling" "[B") ∈ zw := List.mem_filter.mpr ⟨List.mem_append_right _ (List.mem_of_getElem? (i := 414) (by decide +kernel)), by decide +kernel⟩
theorem kw_416 : (Jvm.Cond.laysFinal "ProofDesk$Printer" "ProofDesk$Printer" "clashes" "[I") ∈ zw := List.mem_filter.mpr ⟨List.mem_append_right _ (List.mem_of_getElem? (i := 416) (by decide +kernel)), by decide +kernel⟩
theorem kw_418 : (Jvm.Cond.lays "ProofDesk$Printer" "ProofDesk$Printer" "search" "I") ∈ zw := List.mem_filter.mpr ⟨List.mem_append_right _ (List.mem_of_getElem? (i := 418) (by decide +kernel)), by decide +kernel⟩
theorem kw_420 : (Jvm.Cond.laysFinal "ProofDesk$Printer" "ProofDesk$Printer" "stack" "LProofDesk$Pile;") ∈ zw := List.mem_filter.mpr ⟨List.mem_append_right _ (List.mem_of_getElem? (i := 420) (by decide +kernel)), by decide +kernel⟩
theorem kw_567 : (Jvm.Cond.laysFinal "ProofDesk" "ProofDesk" "ledger" "LProofDesk$Ledger;") ∈ zw := List.mem_filter.mpr ⟨List.mem_append_right _ (List.mem_of_getElem? (i := 567) (by decide +kernel)), by decide +kernel⟩
theorem kw_569 : (Jvm.Cond.laysFinal "ProofDesk" "ProofDesk" "names" "LProofDesk$Names;") ∈ zw := List.mem_filter.mpr ⟨List.mem_append_right _ (List.mem_of_getElem? (i := 569) (by decide +kernel)), by decide +kernel⟩
theorem kw_571 : (Jvm.Cond.laysFinal "ProofDesk" "ProofDesk" "shelf" "LProofDesk$Shelf;") ∈ zw := List.mem_filter.mpr ⟨List.mem_append_right _ (List.mem_of_getElem? (i := 571) (by decide +kernel)), by decide +kernel⟩
theorem kw_573 : (Jvm.Cond.laysFinal "ProofDesk" "ProofDesk" "lexer" "LProofDesk$Lexer;") ∈ zw := List.mem_filter.mpr ⟨List.mem_append_right _ (List.mem_of_getElem? (i := 573) (by decide +kernel)), by decide +kernel⟩
theorem kw_575 : (Jvm.Cond.laysFinal "ProofDesk" "ProofDesk" "parser" "LProofDesk$Parser;") ∈ zw := List.mem_filter.mpr ⟨List.mem_append_right _ (List.mem_of_getElem? (i := 575) (by decide +kernel)), by decide +kernel⟩
theorem kw_577 : (Jvm.Cond.laysFinal "ProofDesk" "ProofDesk" "printer" "LProofDesk$Printer;") ∈ zw := List.mem_filter.mpr ⟨List.mem_append_right _ (List.mem_of_getElem? (i := 577) (by decide +kernel)), by decide +kernel⟩
theorem kw_579 : (Jvm.Cond.laysFinal "ProofDesk" "ProofDesk" "declarer" "LProofDesk$Declarer;") ∈ zw := List.mem_filter.mpr ⟨List.mem_append_right _ (List.mem_of_getElem? (i := 579) (by decide +kernel)), by decide +kernel⟩
theorem kw_581 : (Jvm.Cond.lays "ProofDesk" "ProofDesk" "bytes" "[B") ∈ zw := List.mem_filter.mpr ⟨List.mem_append_right _ (List.mem_of_getElem? (i := 581) (by decide +kernel)), by decide +kernel⟩
theorem kw_583 : (Jvm.Cond.lays "ProofDesk" "ProofDesk" "byteCount" "I") ∈ zw := List.mem_filter.mpr ⟨List.mem_append_right _ (List.mem_of_getElem? (i := 583) (by decide +kernel)), by decide +kernel⟩
theorem kw_1765 : (Jvm.Cond.lays "ProofDeskModel$Rows" "ProofDeskModel$Rows" "kind" "[I") ∈ zw := List.mem_filter.mpr ⟨List.mem_append_right _ (List.mem_of_getElem? (i := 1765) (by decide +kernel)), by decide +kernel⟩
theorem kw_1767 : (Jvm.Cond.lays "ProofDeskModel$Rows" "ProofDeskModel$Rows" "value" "[I") ∈ zw := List.mem_filter.mpr ⟨List.mem_append_right _ (List.mem_of_getElem? (i := 1767) (by decide +kernel)), by decide +kernel⟩
theorem kw_1769 : (Jvm.Cond.lays "ProofDeskModel$Rows" "ProofDeskModel$Rows" "name" "[I") ∈ zw := List.mem_filter.mpr ⟨List.mem_append_right _ (List.mem_of_getElem? (i := 1769) (by decide +kernel)), by decide +kernel⟩
theorem kw_1771 : (Jvm.Cond.lays "ProofDeskModel$Rows" "ProofDeskModel$Rows" "size" "[I") ∈ zw := List.mem_filter.mpr ⟨List.mem_append_right _ (List.mem_of_getElem? (i := 1771) (by decide +kernel)), by decide +kernel⟩
theorem kw_1773 : (Jvm.Cond.lays "ProofDeskModel$Rows" "ProofDeskModel$Rows" "place" "[I") ∈ zw := List.mem_filter.mpr ⟨List.mem_append_right _ (List.mem_of_getElem? (i := 1773) (by decide +kernel)), by decide +kernel⟩
theorem kw_1775 : (Jvm.Cond.lays "ProofDeskModel$Rows" "ProofDeskModel$Rows" "kept" "[I") ∈ zw := List.mem_filter.mpr ⟨List.mem_append_right _ (List.mem_of_getElem? (i := 1775) (by decide +kernel)), by decide +kernel⟩
theorem kw_1777 : (Jvm.Cond.lays "ProofDeskModel$Rows" "ProofDeskModel$Rows" "depth" "[I") ∈ zw := List.mem_filter.mpr ⟨List.mem_append_right _ (List.mem_of_getElem? (i := 1777) (by decide +kernel)), by decide +kernel⟩
theorem kw_1779 : (Jvm.Cond.lays "ProofDeskModel$Rows" "ProofDeskModel$Rows" "count" "I") ∈ zw := List.mem_filter.mpr ⟨List.mem_append_right _ (List.mem_of_getElem? (i := 1779) (by decide +kernel)), by decide +kernel⟩
theorem kw_1855 : (Jvm.Cond.lays "ProofDeskModel$Globals" "ProofDeskModel$Globals" "count" "I") ∈ zw := List.mem_filter.mpr ⟨List.mem_append_right _ (List.mem_of_getElem? (i := 1855) (by decide +kernel)), by decide +kernel⟩
theorem kw_1857 : (Jvm.Cond.lays "ProofDeskModel$Globals" "ProofDeskModel$Globals" "nodes" "I") ∈ zw := List.mem_filter.mpr ⟨List.mem_append_right _ (List.mem_of_getElem? (i := 1857) (by decide +kernel)), by decide +kernel⟩
theorem kw_1859 : (Jvm.Cond.laysFinal "ProofDeskModel$Globals" "ProofDeskModel$Globals" "kind" "[I") ∈ zw := List.mem_filter.mpr ⟨List.mem_append_right _ (List.mem_of_getElem? (i := 1859) (by decide +kernel)), by decide +kernel⟩
theorem kw_1861 : (Jvm.Cond.laysFinal "ProofDeskModel$Globals" "ProofDeskModel$Globals" "name" "[I") ∈ zw := List.mem_filter.mpr ⟨List.mem_append_right _ (List.mem_of_getElem? (i := 1861) (by decide +kernel)), by decide +kernel⟩
theorem kw_1863 : (Jvm.Cond.laysFinal "ProofDeskModel$Globals" "ProofDeskModel$Globals" "start" "[I") ∈ zw := List.mem_filter.mpr ⟨List.mem_append_right _ (List.mem_of_getElem? (i := 1863) (by decide +kernel)), by decide +kernel⟩
theorem kw_1865 : (Jvm.Cond.laysFinal "ProofDeskModel$Globals" "ProofDeskModel$Globals" "type" "[I") ∈ zw := List.mem_filter.mpr ⟨List.mem_append_right _ (List.mem_of_getElem? (i := 1865) (by decide +kernel)), by decide +kernel⟩
theorem kw_1867 : (Jvm.Cond.laysFinal "ProofDeskModel$Globals" "ProofDeskModel$Globals" "value" "[I") ∈ zw := List.mem_filter.mpr ⟨List.mem_append_right _ (List.mem_of_getElem? (i := 1867) (by decide +kernel)), by decide +kernel⟩
theorem kw_1869 : (Jvm.Cond.laysFinal "ProofDeskModel$Globals" "ProofDeskModel$Globals" "size" "[I") ∈ zw := List.mem_filter.mpr ⟨List.mem_append_right _ (List.mem_of_getElem? (i := 1869) (by decide +kernel)), by decide +kernel⟩
theorem kw_1871 : (Jvm.Cond.laysFinal "ProofDeskModel$Globals" "ProofDeskModel$Globals" "family" "[I") ∈ zw := List.mem_filter.mpr ⟨List.mem_append_right _ (List.mem_of_getElem? (i := 1871) (by decide +kernel)), by decide +kernel⟩
theorem kw_1873 : (Jvm.Cond.laysFinal "ProofDeskModel$Globals" "ProofDeskModel$Globals" "parameters" "[I") ∈ zw := List.mem_filter.mpr ⟨List.mem_append_right _ (List.mem_of_getElem? (i := 1873) (by decide +kernel)), by decide +kernel⟩
theorem kw_1875 : (Jvm.Cond.laysFinal "ProofDeskModel$Globals" "ProofDeskModel$Globals" "others" "[I") ∈ zw := List.mem_filter.mpr ⟨List.mem_append_right _ (List.mem_of_getElem? (i := 1875) (by decide +kernel)), by decide +kernel⟩
theorem kw_1877 : (Jvm.Cond.laysFinal "ProofDeskModel$Globals" "ProofDeskModel$Globals" "sort" "[I") ∈ zw := List.mem_filter.mpr ⟨List.mem_append_right _ (List.mem_of_getElem? (i := 1877) (by decide +kernel)), by decide +kernel⟩
theorem kw_1879 : (Jvm.Cond.laysFinal "ProofDeskModel$Globals" "ProofDeskModel$Globals" "constructors" "[I") ∈ zw := List.mem_filter.mpr ⟨List.mem_append_right _ (List.mem_of_getElem? (i := 1879) (by decide +kernel)), by decide +kernel⟩
theorem kw_1881 : (Jvm.Cond.laysFinal "ProofDeskModel$Globals" "ProofDeskModel$Globals" "all" "[Z") ∈ zw := List.mem_filter.mpr ⟨List.mem_append_right _ (List.mem_of_getElem? (i := 1881) (by decide +kernel)), by decide +kernel⟩
theorem kw_1883 : (Jvm.Cond.lays "ProofDeskModel$Globals" "ProofDeskModel$Globals" "recOf" "[I") ∈ zw := List.mem_filter.mpr ⟨List.mem_append_right _ (List.mem_of_getElem? (i := 1883) (by decide +kernel)), by decide +kernel⟩
theorem kw_1885 : (Jvm.Cond.lays "ProofDeskModel$Globals" "ProofDeskModel$Globals" "recAt" "[I") ∈ zw := List.mem_filter.mpr ⟨List.mem_append_right _ (List.mem_of_getElem? (i := 1885) (by decide +kernel)), by decide +kernel⟩
theorem kw_1887 : (Jvm.Cond.lays "ProofDeskModel$Globals" "ProofDeskModel$Globals" "recType" "[I") ∈ zw := List.mem_filter.mpr ⟨List.mem_append_right _ (List.mem_of_getElem? (i := 1887) (by decide +kernel)), by decide +kernel⟩
theorem kw_1889 : (Jvm.Cond.lays "ProofDeskModel$Globals" "ProofDeskModel$Globals" "recYs" "[I") ∈ zw := List.mem_filter.mpr ⟨List.mem_append_right _ (List.mem_of_getElem? (i := 1889) (by decide +kernel)), by decide +kernel⟩
theorem kw_1891 : (Jvm.Cond.lays "ProofDeskModel$Globals" "ProofDeskModel$Globals" "recs" "I") ∈ zw := List.mem_filter.mpr ⟨List.mem_append_right _ (List.mem_of_getElem? (i := 1891) (by decide +kernel)), by decide +kernel⟩
theorem kw_1893 : (Jvm.Cond.laysFinal "ProofDeskModel$Globals" "ProofDeskModel$Globals" "recFrom" "[I") ∈ zw := List.mem_filter.mpr ⟨List.mem_append_right _ (List.mem_of_getElem? (i := 1893) (by decide +kernel)), by decide +kernel⟩
theorem kw_1895 : (Jvm.Cond.laysFinal "ProofDeskModel$Globals" "ProofDeskModel$Globals" "recTo" "[I") ∈ zw := List.mem_filter.mpr ⟨List.mem_append_right _ (List.mem_of_getElem? (i := 1895) (by decide +kernel)), by decide +kernel⟩
theorem kw_1937 : (Jvm.Cond.laysFinal "ProofDeskModel$Plain" "ProofDeskModel$Plain" "\x72" "LProofDeskModel$Rows;") ∈ zw := List.mem_filter.mpr ⟨List.mem_append_right _ (List.mem_of_getElem? (i := 1937) (by decide +kernel)), by decide +kernel⟩
theorem kw_1939 : (Jvm.Cond.laysFinal "ProofDeskModel$Plain" "ProofDeskModel$Plain" "g" "LProofDeskModel$Globals;") ∈ zw := List.mem_filter.mpr ⟨List.mem_append_right _ (List.mem_of_getElem? (i := 1939) (by decide +kernel)), by decide +kernel⟩
theorem kw_1941 : (Jvm.Cond.lays "ProofDeskModel$Plain" "ProofDeskModel$Plain" "cost" "I") ∈ zw := List.mem_filter.mpr ⟨List.mem_append_right _ (List.mem_of_getElem? (i := 1941) (by decide +kernel)), by decide +kernel⟩
theorem kw_1943 : (Jvm.Cond.lays "ProofDeskModel$Plain" "ProofDeskModel$Plain" "fuel" "I") ∈ zw := List.mem_filter.mpr ⟨List.mem_append_right _ (List.mem_of_getElem? (i := 1943) (by decide +kernel)), by decide +kernel⟩
theorem kw_1945 : (Jvm.Cond.lays "ProofDeskModel$Plain" "ProofDeskModel$Plain" "eKind" "[I") ∈ zw := List.mem_filter.mpr ⟨List.mem_append_right _ (List.mem_of_getElem? (i := 1945) (by decide +kernel)), by decide +kernel⟩
theorem kw_1947 : (Jvm.Cond.lays "ProofDeskModel$Plain" "ProofDeskModel$Plain" "eTerm" "[I") ∈ zw := List.mem_filter.mpr ⟨List.mem_append_right _ (List.mem_of_getElem? (i := 1947) (by decide +kernel)), by decide +kernel⟩
theorem kw_1949 : (Jvm.Cond.lays "ProofDeskModel$Plain" "ProofDeskModel$Plain" "eEnv" "[I") ∈ zw := List.mem_filter.mpr ⟨List.mem_append_right _ (List.mem_of_getElem? (i := 1949) (by decide +kernel)), by decide +kernel⟩
theorem kw_1951 : (Jvm.Cond.lays "ProofDeskModel$Plain" "ProofDeskModel$Plain" "eNext" "[I") ∈ zw := List.mem_filter.mpr ⟨List.mem_append_right _ (List.mem_of_getElem? (i := 1951) (by decide +kernel)), by decide +kernel⟩
theorem kw_1953 : (Jvm.Cond.lays "ProofDeskModel$Plain" "ProofDeskModel$Plain" "envs" "I") ∈ zw := List.mem_filter.mpr ⟨List.mem_append_right _ (List.mem_of_getElem? (i := 1953) (by decide +kernel)), by decide +kernel⟩
theorem kw_1955 : (Jvm.Cond.lays "ProofDeskModel$Plain" "ProofDeskModel$Plain" "aTerm" "[I") ∈ zw := List.mem_filter.mpr ⟨List.mem_append_right _ (List.mem_of_getElem? (i := 1955) (by decide +kernel)), by decide +kernel⟩
theorem kw_1957 : (Jvm.Cond.lays "ProofDeskModel$Plain" "ProofDeskModel$Plain" "aEnv" "[I") ∈ zw := List.mem_filter.mpr ⟨List.mem_append_right _ (List.mem_of_getElem? (i := 1957) (by decide +kernel)), by decide +kernel⟩
theorem kw_1959 : (Jvm.Cond.lays "ProofDeskModel$Plain" "ProofDeskModel$Plain" "aNext" "[I") ∈ zw := List.mem_filter.mpr ⟨List.mem_append_right _ (List.mem_of_getElem? (i := 1959) (by decide +kernel)), by decide +kernel⟩
theorem kw_1961 : (Jvm.Cond.lays "ProofDeskModel$Plain" "ProofDeskModel$Plain" "args" "I") ∈ zw := List.mem_filter.mpr ⟨List.mem_append_right _ (List.mem_of_getElem? (i := 1961) (by decide +kernel)), by decide +kernel⟩
theorem kw_1963 : (Jvm.Cond.lays "ProofDeskModel$Plain" "ProofDeskModel$Plain" "vKind" "[I") ∈ zw := List.mem_filter.mpr ⟨List.mem_append_right _ (List.mem_of_getElem? (i := 1963) (by decide +kernel)), by decide +kernel⟩
theorem kw_1965 : (Jvm.Cond.lays "ProofDeskModel$Plain" "ProofDeskModel$Plain" "vTerm" "[I") ∈ zw := List.mem_filter.mpr ⟨List.mem_append_right _ (List.mem_of_getElem? (i := 1965) (by decide +kernel)), by decide +kernel⟩
theorem kw_1967 : (Jvm.Cond.lays "ProofDeskModel$Plain" "ProofDeskModel$Plain" "vEnv" "[I") ∈ zw := List.mem_filter.mpr ⟨List.mem_append_right _ (List.mem_of_getElem? (i := 1967) (by decide +kernel)), by decide +kernel⟩
theorem kw_1969 : (Jvm.Cond.lays "ProofDeskModel$Plain" "ProofDeskModel$Plain" "vArgs" "[I") ∈ zw := List.mem_filter.mpr ⟨List.mem_append_right _ (List.mem_of_getElem? (i := 1969) (by decide +kernel)), by decide +kernel⟩
theorem kw_1971 : (Jvm.Cond.lays "ProofDeskModel$Plain" "ProofDeskModel$Plain" "values" "I") ∈ zw := List.mem_filter.mpr ⟨List.mem_append_right _ (List.mem_of_getElem? (i := 1971) (by decide +kernel)), by decide +kernel⟩
theorem kw_1973 : (Jvm.Cond.lays "ProofDeskModel$Plain" "ProofDeskModel$Plain" "bRec" "[I") ∈ zw := List.mem_filter.mpr ⟨List.mem_append_right _ (List.mem_of_getElem? (i := 1973) (by decide +kernel)), by decide +kernel⟩
theorem kw_1975 : (Jvm.Cond.lays "ProofDeskModel$Plain" "ProofDeskModel$Plain" "bYs" "[I") ∈ zw := List.mem_filter.mpr ⟨List.mem_append_right _ (List.mem_of_getElem? (i := 1975) (by decide +kernel)), by decide +kernel⟩
theorem kw_1977 : (Jvm.Cond.lays "ProofDeskModel$Plain" "ProofDeskModel$Plain" "bArg" "[I") ∈ zw := List.mem_filter.mpr ⟨List.mem_append_right _ (List.mem_of_getElem? (i := 1977) (by decide +kernel)), by decide +kernel⟩
theorem kw_1979 : (Jvm.Cond.lays "ProofDeskModel$Plain" "ProofDeskModel$Plain" "brought" "I") ∈ zw := List.mem_filter.mpr ⟨List.mem_append_right _ (List.mem_of_getElem? (i := 1979) (by decide +kernel)), by decide +kernel⟩
theorem kw_1981 : (Jvm.Cond.lays "ProofDeskModel$Plain" "ProofDeskModel$Plain" "waiting" "[I") ∈ zw := List.mem_filter.mpr ⟨List.mem_append_right _ (List.mem_of_getElem? (i := 1981) (by decide +kernel)), by decide +kernel⟩
theorem kw_1983 : (Jvm.Cond.lays "ProofDeskModel$Plain" "ProofDeskModel$Plain" "top" "I") ∈ zw := List.mem_filter.mpr ⟨List.mem_append_right _ (List.mem_of_getElem? (i := 1983) (by decide +kernel)), by decide +kernel⟩
theorem kw_1985 : (Jvm.Cond.lays "ProofDeskModel$Plain" "ProofDeskModel$Plain" "tasks" "[I") ∈ zw := List.mem_filter.mpr ⟨List.mem_append_right _ (List.mem_of_getElem? (i := 1985) (by decide +kernel)), by decide +kernel⟩
theorem kw_1987 : (Jvm.Cond.lays "ProofDeskModel$Plain" "ProofDeskModel$Plain" "task" "I") ∈ zw := List.mem_filter.mpr ⟨List.mem_append_right _ (List.mem_of_getElem? (i := 1987) (by decide +kernel)), by decide +kernel⟩
theorem kw_1989 : (Jvm.Cond.lays "ProofDeskModel$Plain" "ProofDeskModel$Plain" "t" "I") ∈ zw := List.mem_filter.mpr ⟨List.mem_append_right _ (List.mem_of_getElem? (i := 1989) (by decide +kernel)), by decide +kernel⟩
theorem kw_1991 : (Jvm.Cond.lays "ProofDeskModel$Plain" "ProofDeskModel$Plain" "e" "I") ∈ zw := List.mem_filter.mpr ⟨List.mem_append_right _ (List.mem_of_getElem? (i := 1991) (by decide +kernel)), by decide +kernel⟩
theorem kw_1993 : (Jvm.Cond.lays "ProofDeskModel$Plain" "ProofDeskModel$Plain" "list" "I") ∈ zw := List.mem_filter.mpr ⟨List.mem_append_right _ (List.mem_of_getElem? (i := 1993) (by decide +kernel)), by decide +kernel⟩
theorem kw_2057 : (Jvm.Cond.laysFinal "ProofDeskModel$Rules" "ProofDeskModel$Rules" "\x72" "LProofDeskModel$Rows;") ∈ zw := List.mem_filter.mpr ⟨List.mem_append_right _ (List.mem_of_getElem? (i := 2057) (by decide +kernel)), by decide +kernel⟩
theorem kw_2059 : (Jvm.Cond.laysFinal "ProofDeskModel$Rules" "ProofDeskModel$Rules" "g" "LProofDeskModel$Globals;") ∈ zw := List.mem_filter.mpr ⟨List.mem_append_right _ (List.mem_of_getElem? (i := 2059) (by decide +kernel)), by decide +kernel⟩
theorem kw_2061 : (Jvm.Cond.laysFinal "ProofDeskModel$Rules" "ProofDeskModel$Rules" "plain" "LProofDeskModel$Plain;") ∈ zw := List.mem_filter.mpr ⟨List.mem_append_right _ (List.mem_of_getElem? (i := 2061) (by decide +kernel)), by decide +kernel⟩
theorem kw_2063 : (Jvm.Cond.laysFinal "ProofDeskModel$Rules" "ProofDeskModel$Rules" "nameM" "I") ∈ zw := List.mem_filter.mpr ⟨List.mem_append_right _ (List.mem_of_getElem? (i := 2063) (by decide +kernel)), by decide +kernel⟩
theorem kw_2065 : (Jvm.Cond.laysFinal "ProofDeskModel$Rules" "ProofDeskModel$Rules" "nameX" "I") ∈ zw := List.mem_filter.mpr ⟨List.mem_append_right _ (List.mem_of_getElem? (i := 2065) (by decide +kernel)), by decide +kernel⟩
theorem kw_2067 : (Jvm.Cond.lays "ProofDeskModel$Rules" "ProofDeskModel$Rules" "tk" "[I") ∈ zw := List.mem_filter.mpr ⟨List.mem_append_right _ (List.mem_of_getElem? (i := 2067) (by decide +kernel)), by decide +kernel⟩
theorem kw_2069 : (Jvm.Cond.lays "ProofDeskModel$Rules" "ProofDeskModel$Rules" "tp" "[I") ∈ zw := List.mem_filter.mpr ⟨List.mem_append_right _ (List.mem_of_getElem? (i := 2069) (by decide +kernel)), by decide +kernel⟩
theorem kw_2071 : (Jvm.Cond.lays "ProofDeskModel$Rules" "ProofDeskModel$Rules" "tv" "[I") ∈ zw := List.mem_filter.mpr ⟨List.mem_append_right _ (List.mem_of_getElem? (i := 2071) (by decide +kernel)), by decide +kernel⟩
theorem kw_2073 : (Jvm.Cond.lays "ProofDeskModel$Rules" "ProofDeskModel$Rules" "ts" "[I") ∈ zw := List.mem_filter.mpr ⟨List.mem_append_right _ (List.mem_of_getElem? (i := 2073) (by decide +kernel)), by decide +kernel⟩
theorem kw_2075 : (Jvm.Cond.lays "ProofDeskModel$Rules" "ProofDeskModel$Rules" "tm" "[I") ∈ zw := List.mem_filter.mpr ⟨List.mem_append_right _ (List.mem_of_getElem? (i := 2075) (by decide +kernel)), by decide +kernel⟩
theorem kw_2077 : (Jvm.Cond.lays "ProofDeskModel$Rules" "ProofDeskModel$Rules" "known" "[I") ∈ zw := List.mem_filter.mpr ⟨List.mem_append_right _ (List.mem_of_getElem? (i := 2077) (by decide +kernel)), by decide +kernel⟩
theorem kw_2079 : (Jvm.Cond.lays "ProofDeskModel$Rules" "ProofDeskModel$Rules" "depth" "I") ∈ zw := List.mem_filter.mpr ⟨List.mem_append_right _ (List.mem_of_getElem? (i := 2079) (by decide +kernel)), by decide +kernel⟩
theorem kw_2081 : (Jvm.Cond.lays "ProofDeskModel$Rules" "ProofDeskModel$Rules" "env" "I") ∈ zw := List.mem_filter.mpr ⟨List.mem_append_right _ (List.mem_of_getElem? (i := 2081) (by decide +kernel)), by decide +kernel⟩
theorem kw_2083 : (Jvm.Cond.lays "ProofDeskModel$Rules" "ProofDeskModel$Rules" "hKind" "[I") ∈ zw := List.mem_filter.mpr ⟨List.mem_append_right _ (List.mem_of_getElem? (i := 2083) (by decide +kernel)), by decide +kernel⟩
theorem kw_2085 : (Jvm.Cond.lays "ProofDeskModel$Rules" "ProofDeskModel$Rules" "hName" "[I") ∈ zw := List.mem_filter.mpr ⟨List.mem_append_right _ (List.mem_of_getElem? (i := 2085) (by decide +kernel)), by decide +kernel⟩
theorem kw_2087 : (Jvm.Cond.lays "ProofDeskModel$Rules" "ProofDeskModel$Rules" "hType" "[I") ∈ zw := List.mem_filter.mpr ⟨List.mem_append_right _ (List.mem_of_getElem? (i := 2087) (by decide +kernel)), by decide +kernel⟩
theorem kw_2089 : (Jvm.Cond.lays "ProofDeskModel$Rules" "ProofDeskModel$Rules" "hSort" "[I") ∈ zw := List.mem_filter.mpr ⟨List.mem_append_right _ (List.mem_of_getElem? (i := 2089) (by decide +kernel)), by decide +kernel⟩
theorem kw_2091 : (Jvm.Cond.lays "ProofDeskModel$Rules" "ProofDeskModel$Rules" "hLevel" "[I") ∈ zw := List.mem_filter.mpr ⟨List.mem_append_right _ (List.mem_of_getElem? (i := 2091) (by decide +kernel)), by decide +kernel⟩
theorem kw_2093 : (Jvm.Cond.lays "ProofDeskModel$Rules" "ProofDeskModel$Rules" "hUnder" "[I") ∈ zw := List.mem_filter.mpr ⟨List.mem_append_right _ (List.mem_of_getElem? (i := 2093) (by decide +kernel)), by decide +kernel⟩
theorem kw_2095 : (Jvm.Cond.lays "ProofDeskModel$Rules" "ProofDeskModel$Rules" "chain" "I") ∈ zw := List.mem_filter.mpr ⟨List.mem_append_right _ (List.mem_of_getElem? (i := 2095) (by decide +kernel)), by decide +kernel⟩
theorem kw_2097 : (Jvm.Cond.lays "ProofDeskModel$Rules" "ProofDeskModel$Rules" "which" "[I") ∈ zw := List.mem_filter.mpr ⟨List.mem_append_right _ (List.mem_of_getElem? (i := 2097) (by decide +kernel)), by decide +kernel⟩
theorem kw_2099 : (Jvm.Cond.lays "ProofDeskModel$Rules" "ProofDeskModel$Rules" "tasks" "[I") ∈ zw := List.mem_filter.mpr ⟨List.mem_append_right _ (List.mem_of_getElem? (i := 2099) (by decide +kernel)), by decide +kernel⟩
theorem kw_2101 : (Jvm.Cond.lays "ProofDeskModel$Rules" "ProofDeskModel$Rules" "task" "I") ∈ zw := List.mem_filter.mpr ⟨List.mem_append_right _ (List.mem_of_getElem? (i := 2101) (by decide +kernel)), by decide +kernel⟩
theorem kw_2103 : (Jvm.Cond.lays "ProofDeskModel$Rules" "ProofDeskModel$Rules" "levels" "[I") ∈ zw := List.mem_filter.mpr ⟨List.mem_append_right _ (List.mem_of_getElem? (i := 2103) (by decide +kernel)), by decide +kernel⟩
theorem kw_2105 : (Jvm.Cond.lays "ProofDeskModel$Rules" "ProofDeskModel$Rules" "reason" "I") ∈ zw := List.mem_filter.mpr ⟨List.mem_append_right _ (List.mem_of_getElem? (i := 2105) (by decide +kernel)), by decide +kernel⟩
theorem kw_2107 : (Jvm.Cond.lays "ProofDeskModel$Rules" "ProofDeskModel$Rules" "place" "I") ∈ zw := List.mem_filter.mpr ⟨List.mem_append_right _ (List.mem_of_getElem? (i := 2107) (by decide +kernel)), by decide +kernel⟩
theorem kw_2109 : (Jvm.Cond.lays "ProofDeskModel$Rules" "ProofDeskModel$Rules" "printed" "I") ∈ zw := List.mem_filter.mpr ⟨List.mem_append_right _ (List.mem_of_getElem? (i := 2109) (by decide +kernel)), by decide +kernel⟩
theorem kw_2111 : (Jvm.Cond.laysFinal "ProofDeskModel$Rules" "ProofDeskModel$Rules" "rows" "[I") ∈ zw := List.mem_filter.mpr ⟨List.mem_append_right _ (List.mem_of_getElem? (i := 2111) (by decide +kernel)), by decide +kernel⟩
theorem kw_2113 : (Jvm.Cond.laysFinal "ProofDeskModel$Rules" "ProofDeskModel$Rules" "names" "[I") ∈ zw := List.mem_filter.mpr ⟨List.mem_append_right _ (List.mem_of_getElem? (i := 2113) (by decide +kernel)), by decide +kernel⟩
theorem kw_2115 : (Jvm.Cond.laysFinal "ProofDeskModel$Rules" "ProofDeskModel$Rules" "many" "[I") ∈ zw := List.mem_filter.mpr ⟨List.mem_append_right _ (List.mem_of_getElem? (i := 2115) (by decide +kernel)), by decide +kernel⟩
theorem kw_2117 : (Jvm.Cond.lays "ProofDeskModel$Rules" "ProofDeskModel$Rules" "tooMany" "Z") ∈ zw := List.mem_filter.mpr ⟨List.mem_append_right _ (List.mem_of_getElem? (i := 2117) (by decide +kernel)), by decide +kernel⟩
theorem kw_2119 : (Jvm.Cond.lays "ProofDeskModel$Rules" "ProofDeskModel$Rules" "lastSort" "I") ∈ zw := List.mem_filter.mpr ⟨List.mem_append_right _ (List.mem_of_getElem? (i := 2119) (by decide +kernel)), by decide +kernel⟩
theorem kw_2121 : (Jvm.Cond.lays "ProofDeskModel$Rules" "ProofDeskModel$Rules" "lastMany" "I") ∈ zw := List.mem_filter.mpr ⟨List.mem_append_right _ (List.mem_of_getElem? (i := 2121) (by decide +kernel)), by decide +kernel⟩
theorem kw_2180 : (Jvm.Cond.laysFinal "ProofDeskModel" "ProofDeskModel" "words" "[Ljava/lang/String;") ∈ zw := List.mem_filter.mpr ⟨List.mem_append_right _ (List.mem_of_getElem? (i := 2180) (by decide +kernel)), by decide +kernel⟩
theorem kw_2182 : (Jvm.Cond.laysFinal "ProofDeskModel" "ProofDeskModel" "bytes" "[I") ∈ zw := List.mem_filter.mpr ⟨List.mem_append_right _ (List.mem_of_getElem? (i := 2182) (by decide +kernel)), by decide +kernel⟩
theorem kw_2184 : (Jvm.Cond.lays "ProofDeskModel" "ProofDeskModel" "size" "I") ∈ zw := List.mem_filter.mpr ⟨List.mem_append_right _ (List.mem_of_getElem? (i := 2184) (by decide +kernel)), by decide +kernel⟩
theorem kw_2186 : (Jvm.Cond.lays "ProofDeskModel" "ProofDeskModel" "end" "I") ∈ zw := List.mem_filter.mpr ⟨List.mem_append_right _ (List.mem_of_getElem? (i := 2186) (by decide +kernel)), by decide +kernel⟩
theorem kw_2188 : (Jvm.Cond.lays "ProofDeskModel" "ProofDeskModel" "token" "[I") ∈ zw := List.mem_filter.mpr ⟨List.mem_append_right _ (List.mem_of_getElem? (i := 2188) (by decide +kernel)), by decide +kernel⟩
theorem kw_2190 : (Jvm.Cond.lays "ProofDeskModel" "ProofDeskModel" "place" "[I") ∈ zw := List.mem_filter.mpr ⟨List.mem_append_right _ (List.mem_of_getElem? (i := 2190) (by decide +kernel)), by decide +kernel⟩
theorem kw_2192 : (Jvm.Cond.lays "ProofDeskModel" "ProofDeskModel" "length" "[I") ∈ zw := List.mem_filter.mpr ⟨List.mem_append_right _ (List.mem_of_getElem? (i := 2192) (by decide +kernel)), by decide +kernel⟩
theorem kw_2194 : (Jvm.Cond.lays "ProofDeskModel" "ProofDeskModel" "tokens" "I") ∈ zw := List.mem_filter.mpr ⟨List.mem_append_right _ (List.mem_of_getElem? (i := 2194) (by decide +kernel)), by decide +kernel⟩
theorem kw_2196 : (Jvm.Cond.lays "ProofDeskModel" "ProofDeskModel" "at" "I") ∈ zw := List.mem_filter.mpr ⟨List.mem_append_right _ (List.mem_of_getElem? (i := 2196) (by decide +kernel)), by decide +kernel⟩
theorem kw_2198 : (Jvm.Cond.lays "ProofDeskModel" "ProofDeskModel" "scanned" "I") ∈ zw := List.mem_filter.mpr ⟨List.mem_append_right _ (List.mem_of_getElem? (i := 2198) (by decide +kernel)), by decide +kernel⟩
theorem kw_2200 : (Jvm.Cond.lays "ProofDeskModel" "ProofDeskModel" "bad" "Z") ∈ zw := List.mem_filter.mpr ⟨List.mem_append_right _ (List.mem_of_getElem? (i := 2200) (by decide +kernel)), by decide +kernel⟩
theorem kw_2202 : (Jvm.Cond.lays "ProofDeskModel" "ProofDeskModel" "fault" "I") ∈ zw := List.mem_filter.mpr ⟨List.mem_append_right _ (List.mem_of_getElem? (i := 2202) (by decide +kernel)), by decide +kernel⟩
theorem kw_2204 : (Jvm.Cond.lays "ProofDeskModel" "ProofDeskModel" "kindOf" "[I") ∈ zw := List.mem_filter.mpr ⟨List.mem_append_right _ (List.mem_of_getElem? (i := 2204) (by decide +kernel)), by decide +kernel⟩
theorem kw_2206 : (Jvm.Cond.lays "ProofDeskModel" "ProofDeskModel" "placeOf" "[I") ∈ zw := List.mem_filter.mpr ⟨List.mem_append_right _ (List.mem_of_getElem? (i := 2206) (by decide +kernel)), by decide +kernel⟩
theorem kw_2208 : (Jvm.Cond.lays "ProofDeskModel" "ProofDeskModel" "valueOf" "[I") ∈ zw := List.mem_filter.mpr ⟨List.mem_append_right _ (List.mem_of_getElem? (i := 2208) (by decide +kernel)), by decide +kernel⟩
theorem kw_2210 : (Jvm.Cond.lays "ProofDeskModel" "ProofDeskModel" "firstOf" "[I") ∈ zw := List.mem_filter.mpr ⟨List.mem_append_right _ (List.mem_of_getElem? (i := 2210) (by decide +kernel)), by decide +kernel⟩
theorem kw_2212 : (Jvm.Cond.lays "ProofDeskModel" "ProofDeskModel" "lastOf" "[I") ∈ zw := List.mem_filter.mpr ⟨List.mem_append_right _ (List.mem_of_getElem? (i := 2212) (by decide +kernel)), by decide +kernel⟩
theorem kw_2214 : (Jvm.Cond.lays "ProofDeskModel" "ProofDeskModel" "nextOf" "[I") ∈ zw := List.mem_filter.mpr ⟨List.mem_append_right _ (List.mem_of_getElem? (i := 2214) (by decide +kernel)), by decide +kernel⟩
theorem kw_2216 : (Jvm.Cond.lays "ProofDeskModel" "ProofDeskModel" "drafts" "I") ∈ zw := List.mem_filter.mpr ⟨List.mem_append_right _ (List.mem_of_getElem? (i := 2216) (by decide +kernel)), by decide +kernel⟩
theorem kw_2218 : (Jvm.Cond.lays "ProofDeskModel" "ProofDeskModel" "pile" "[I") ∈ zw := List.mem_filter.mpr ⟨List.mem_append_right _ (List.mem_of_getElem? (i := 2218) (by decide +kernel)), by decide +kernel⟩
theorem kw_2220 : (Jvm.Cond.lays "ProofDeskModel" "ProofDeskModel" "kind" "[I") ∈ zw := List.mem_filter.mpr ⟨List.mem_append_right _ (List.mem_of_getElem? (i := 2220) (by decide +kernel)), by decide +kernel⟩
theorem kw_2222 : (Jvm.Cond.lays "ProofDeskModel" "ProofDeskModel" "where" "[I") ∈ zw := List.mem_filter.mpr ⟨List.mem_append_right _ (List.mem_of_getElem? (i := 2222) (by decide +kernel)), by decide +kernel⟩
theorem kw_2224 : (Jvm.Cond.lays "ProofDeskModel" "ProofDeskModel" "value" "[I") ∈ zw := List.mem_filter.mpr ⟨List.mem_append_right _ (List.mem_of_getElem? (i := 2224) (by decide +kernel)), by decide +kernel⟩
theorem kw_2226 : (Jvm.Cond.lays "ProofDeskModel" "ProofDeskModel" "whole" "[I") ∈ zw := List.mem_filter.mpr ⟨List.mem_append_right _ (List.mem_of_getElem? (i := 2226) (by decide +kernel)), by decide +kernel⟩
theorem kw_2228 : (Jvm.Cond.lays "ProofDeskModel" "ProofDeskModel" "sizes" "[I") ∈ zw := List.mem_filter.mpr ⟨List.mem_append_right _ (List.mem_of_getElem? (i := 2228) (by decide +kernel)), by decide +kernel⟩
theorem kw_2230 : (Jvm.Cond.lays "ProofDeskModel" "ProofDeskModel" "means" "[I") ∈ zw := List.mem_filter.mpr ⟨List.mem_append_right _ (List.mem_of_getElem? (i := 2230) (by decide +kernel)), by decide +kernel⟩
theorem kw_2232 : (Jvm.Cond.lays "ProofDeskModel" "ProofDeskModel" "count" "I") ∈ zw := List.mem_filter.mpr ⟨List.mem_append_right _ (List.mem_of_getElem? (i := 2232) (by decide +kernel)), by decide +kernel⟩
theorem kw_2234 : (Jvm.Cond.lays "ProofDeskModel" "ProofDeskModel" "letters" "[I") ∈ zw := List.mem_filter.mpr ⟨List.mem_append_right _ (List.mem_of_getElem? (i := 2234) (by decide +kernel)), by decide +kernel⟩
theorem kw_2236 : (Jvm.Cond.lays "ProofDeskModel" "ProofDeskModel" "starts" "[I") ∈ zw := List.mem_filter.mpr ⟨List.mem_append_right _ (List.mem_of_getElem? (i := 2236) (by decide +kernel)), by decide +kernel⟩
theorem kw_2238 : (Jvm.Cond.lays "ProofDeskModel" "ProofDeskModel" "names" "I") ∈ zw := List.mem_filter.mpr ⟨List.mem_append_right _ (List.mem_of_getElem? (i := 2238) (by decide +kernel)), by decide +kernel⟩
theorem kw_2240 : (Jvm.Cond.lays "ProofDeskModel" "ProofDeskModel" "between" "I") ∈ zw := List.mem_filter.mpr ⟨List.mem_append_right _ (List.mem_of_getElem? (i := 2240) (by decide +kernel)), by decide +kernel⟩
theorem kw_2242 : (Jvm.Cond.lays "ProofDeskModel" "ProofDeskModel" "met" "Z") ∈ zw := List.mem_filter.mpr ⟨List.mem_append_right _ (List.mem_of_getElem? (i := 2242) (by decide +kernel)), by decide +kernel⟩
theorem kw_2244 : (Jvm.Cond.laysFinal "ProofDeskModel" "ProofDeskModel" "rows" "LProofDeskModel$Rows;") ∈ zw := List.mem_filter.mpr ⟨List.mem_append_right _ (List.mem_of_getElem? (i := 2244) (by decide +kernel)), by decide +kernel⟩
theorem kw_2246 : (Jvm.Cond.laysFinal "ProofDeskModel" "ProofDeskModel" "globals" "LProofDeskModel$Globals;") ∈ zw := List.mem_filter.mpr ⟨List.mem_append_right _ (List.mem_of_getElem? (i := 2246) (by decide +kernel)), by decide +kernel⟩
theorem kw_2248 : (Jvm.Cond.laysFinal "ProofDeskModel" "ProofDeskModel" "plain" "LProofDeskModel$Plain;") ∈ zw := List.mem_filter.mpr ⟨List.mem_append_right _ (List.mem_of_getElem? (i := 2248) (by decide +kernel)), by decide +kernel⟩
theorem kw_2250 : (Jvm.Cond.laysFinal "ProofDeskModel" "ProofDeskModel" "rules" "LProofDeskModel$Rules;") ∈ zw := List.mem_filter.mpr ⟨List.mem_append_right _ (List.mem_of_getElem? (i := 2250) (by decide +kernel)), by decide +kernel⟩
theorem kw_2252 : (Jvm.Cond.laysFinal "ProofDeskModel" "ProofDeskModel" "nameX" "I") ∈ zw := List.mem_filter.mpr ⟨List.mem_append_right _ (List.mem_of_getElem? (i := 2252) (by decide +kernel)), by decide +kernel⟩
theorem kw_2254 : (Jvm.Cond.lays "ProofDeskModel" "ProofDeskModel" "fuel" "I") ∈ zw := List.mem_filter.mpr ⟨List.mem_append_right _ (List.mem_of_getElem? (i := 2254) (by decide +kernel)), by decide +kernel⟩
theorem kw_2256 : (Jvm.Cond.lays "ProofDeskModel" "ProofDeskModel" "reason" "I") ∈ zw := List.mem_filter.mpr ⟨List.mem_append_right _ (List.mem_of_getElem? (i := 2256) (by decide +kernel)), by decide +kernel⟩
theorem kw_2258 : (Jvm.Cond.lays "ProofDeskModel" "ProofDeskModel" "reasonPlace" "I") ∈ zw := List.mem_filter.mpr ⟨List.mem_append_right _ (List.mem_of_getElem? (i := 2258) (by decide +kernel)), by decide +kernel⟩
theorem kw_2260 : (Jvm.Cond.lays "ProofDeskModel" "ProofDeskModel" "verdicts" "[I") ∈ zw := List.mem_filter.mpr ⟨List.mem_append_right _ (List.mem_of_getElem? (i := 2260) (by decide +kernel)), by decide +kernel⟩
theorem kw_2262 : (Jvm.Cond.lays "ProofDeskModel" "ProofDeskModel" "told" "I") ∈ zw := List.mem_filter.mpr ⟨List.mem_append_right _ (List.mem_of_getElem? (i := 2262) (by decide +kernel)), by decide +kernel⟩
theorem kw_2264 : (Jvm.Cond.laysFinal "ProofDeskModel" "ProofDeskModel" "paper" "[I") ∈ zw := List.mem_filter.mpr ⟨List.mem_append_right _ (List.mem_of_getElem? (i := 2264) (by decide +kernel)), by decide +kernel⟩
theorem kw_2266 : (Jvm.Cond.lays "ProofDeskModel" "ProofDeskModel" "paperSize" "I") ∈ zw := List.mem_filter.mpr ⟨List.mem_append_right _ (List.mem_of_getElem? (i := 2266) (by decide +kernel)), by decide +kernel⟩
theorem kw_2268 : (Jvm.Cond.lays "ProofDeskModel" "ProofDeskModel" "line" "I") ∈ zw := List.mem_filter.mpr ⟨List.mem_append_right _ (List.mem_of_getElem? (i := 2268) (by decide +kernel)), by decide +kernel⟩
theorem kw_2270 : (Jvm.Cond.laysFinal "ProofDeskModel" "ProofDeskModel" "leaned" "[Z") ∈ zw := List.mem_filter.mpr ⟨List.mem_append_right _ (List.mem_of_getElem? (i := 2270) (by decide +kernel)), by decide +kernel⟩
theorem kw_2272 : (Jvm.Cond.laysFinal "ProofDeskModel" "ProofDeskModel" "looked" "[Z") ∈ zw := List.mem_filter.mpr ⟨List.mem_append_right _ (List.mem_of_getElem? (i := 2272) (by decide +kernel)), by decide +kernel⟩
theorem kw_2274 : (Jvm.Cond.lays "ProofDeskModel" "ProofDeskModel" "binder" "[I") ∈ zw := List.mem_filter.mpr ⟨List.mem_append_right _ (List.mem_of_getElem? (i := 2274) (by decide +kernel)), by decide +kernel⟩
theorem kw_2276 : (Jvm.Cond.lays "ProofDeskModel" "ProofDeskModel" "called" "[I") ∈ zw := List.mem_filter.mpr ⟨List.mem_append_right _ (List.mem_of_getElem? (i := 2276) (by decide +kernel)), by decide +kernel⟩
theorem kw_2278 : (Jvm.Cond.lays "ProofDeskModel" "ProofDeskModel" "numbered" "[I") ∈ zw := List.mem_filter.mpr ⟨List.mem_append_right _ (List.mem_of_getElem? (i := 2278) (by decide +kernel)), by decide +kernel⟩
theorem kw_2280 : (Jvm.Cond.lays "ProofDeskModel" "ProofDeskModel" "inner" "[I") ∈ zw := List.mem_filter.mpr ⟨List.mem_append_right _ (List.mem_of_getElem? (i := 2280) (by decide +kernel)), by decide +kernel⟩
theorem kw_2282 : (Jvm.Cond.laysFinal "ProofDeskModel" "ProofDeskModel" "spelling" "[I") ∈ zw := List.mem_filter.mpr ⟨List.mem_append_right _ (List.mem_of_getElem? (i := 2282) (by decide +kernel)), by decide +kernel⟩
theorem kw_2284 : (Jvm.Cond.lays "ProofDeskModel" "ProofDeskModel" "taken" "[I") ∈ zw := List.mem_filter.mpr ⟨List.mem_append_right _ (List.mem_of_getElem? (i := 2284) (by decide +kernel)), by decide +kernel⟩
theorem kw_2286 : (Jvm.Cond.lays "ProofDeskModel" "ProofDeskModel" "time" "I") ∈ zw := List.mem_filter.mpr ⟨List.mem_append_right _ (List.mem_of_getElem? (i := 2286) (by decide +kernel)), by decide +kernel⟩
theorem kw_2288 : (Jvm.Cond.lays "ProofDeskModel" "ProofDeskModel" "mostTaken" "I") ∈ zw := List.mem_filter.mpr ⟨List.mem_append_right _ (List.mem_of_getElem? (i := 2288) (by decide +kernel)), by decide +kernel⟩
theorem kw_2290 : (Jvm.Cond.lays "ProofDeskModel" "ProofDeskModel" "pushed" "I") ∈ zw := List.mem_filter.mpr ⟨List.mem_append_right _ (List.mem_of_getElem? (i := 2290) (by decide +kernel)), by decide +kernel⟩
theorem in_Pile : ∀ w ∈ u_ws "ProofDesk$Pile" F_Pile 3, w ∈ zw := by
  intro w hw
  have h : w ∈ [(Jvm.Cond.laysFinal "ProofDesk$Pile" "ProofDesk$Pile" "width" "I"), (Jvm.Cond.lays "ProofDesk$Pile" "ProofDesk$Pile" "cells" "[I"), (Jvm.Cond.lays "ProofDesk$Pile" "ProofDesk$Pile" "count" "I")] := hw
  simp only [List.mem_cons, List.not_mem_nil, or_false] at h
  rcases h with h | h | h
  · rw [h]; exact kw_57
  · rw [h]; exact kw_59
  · rw [h]; exact kw_61
theorem in_Ledger : ∀ w ∈ u_ws "ProofDesk$Ledger" F_Ledger 6, w ∈ zw := by
  intro w hw
  have h : w ∈ [(Jvm.Cond.laysFinal "ProofDesk$Ledger" "ProofDesk$Ledger" "verdicts" "LProofDesk$Pile;"), (Jvm.Cond.lays "ProofDesk$Ledger" "ProofDesk$Ledger" "fuel" "I"), (Jvm.Cond.lays "ProofDesk$Ledger" "ProofDesk$Ledger" "cost" "I"), (Jvm.Cond.lays "ProofDesk$Ledger" "ProofDesk$Ledger" "outcome" "I"), (Jvm.Cond.lays "ProofDesk$Ledger" "ProofDesk$Ledger" "reason" "I"), (Jvm.Cond.lays "ProofDesk$Ledger" "ProofDesk$Ledger" "place" "I")] := hw
  simp only [List.mem_cons, List.not_mem_nil, or_false] at h
  rcases h with h | h | h | h | h | h
  · rw [h]; exact kw_73
  · rw [h]; exact kw_75
  · rw [h]; exact kw_77
  · rw [h]; exact kw_79
  · rw [h]; exact kw_81
  · rw [h]; exact kw_83
theorem in_Names : ∀ w ∈ u_ws "ProofDesk$Names" F_Names 6, w ∈ zw := by
  intro w hw
  have h : w ∈ [(Jvm.Cond.lays "ProofDesk$Names" "ProofDesk$Names" "letters" "[B"), (Jvm.Cond.lays "ProofDesk$Names" "ProofDesk$Names" "letterCount" "I"), (Jvm.Cond.lays "ProofDesk$Names" "ProofDesk$Names" "rows" "[I"), (Jvm.Cond.laysFinal "ProofDesk$Names" "ProofDesk$Names" "buckets" "[I"), (Jvm.Cond.lays "ProofDesk$Names" "ProofDesk$Names" "count" "I"), (Jvm.Cond.lays "ProofDesk$Names" "ProofDesk$Names" "serial" "I")] := hw
  simp only [List.mem_cons, List.not_mem_nil, or_false] at h
  rcases h with h | h | h | h | h | h
  · rw [h]; exact kw_150
  · rw [h]; exact kw_152
  · rw [h]; exact kw_154
  · rw [h]; exact kw_156
  · rw [h]; exact kw_158
  · rw [h]; exact kw_160
theorem in_Lexer : ∀ w ∈ u_ws "ProofDesk$Lexer" F_Lexer 8, w ∈ zw := by
  intro w hw
  have h : w ∈ [(Jvm.Cond.laysFinal "ProofDesk$Lexer" "ProofDesk$Lexer" "names" "LProofDesk$Names;"), (Jvm.Cond.lays "ProofDesk$Lexer" "ProofDesk$Lexer" "text" "[B"), (Jvm.Cond.lays "ProofDesk$Lexer" "ProofDesk$Lexer" "length" "I"), (Jvm.Cond.lays "ProofDesk$Lexer" "ProofDesk$Lexer" "at" "I"), (Jvm.Cond.lays "ProofDesk$Lexer" "ProofDesk$Lexer" "token" "I"), (Jvm.Cond.lays "ProofDesk$Lexer" "ProofDesk$Lexer" "start" "I"), (Jvm.Cond.lays "ProofDesk$Lexer" "ProofDesk$Lexer" "name" "I"), (Jvm.Cond.lays "ProofDesk$Lexer" "ProofDesk$Lexer" "level" "I")] := hw
  simp only [List.mem_cons, List.not_mem_nil, or_false] at h
  rcases h with h | h | h | h | h | h | h | h
  · rw [h]; exact kw_274
  · rw [h]; exact kw_276
  · rw [h]; exact kw_278
  · rw [h]; exact kw_280
  · rw [h]; exact kw_282
  · rw [h]; exact kw_284
  · rw [h]; exact kw_286
  · rw [h]; exact kw_288
theorem in_Terms : ∀ w ∈ u_ws "ProofDesk$Terms" F_Terms 9, w ∈ zw := by
  intro w hw
  have h : w ∈ [(Jvm.Cond.lays "ProofDesk$Terms" "ProofDesk$Terms" "cells" "[I"), (Jvm.Cond.lays "ProofDesk$Terms" "ProofDesk$Terms" "top" "I"), (Jvm.Cond.lays "ProofDesk$Terms" "ProofDesk$Terms" "rows" "[I"), (Jvm.Cond.lays "ProofDesk$Terms" "ProofDesk$Terms" "binders" "I"), (Jvm.Cond.lays "ProofDesk$Terms" "ProofDesk$Terms" "kept" "I"), (Jvm.Cond.lays "ProofDesk$Terms" "ProofDesk$Terms" "keptBinders" "I"), (Jvm.Cond.lays "ProofDesk$Terms" "ProofDesk$Terms" "block" "I"), (Jvm.Cond.lays "ProofDesk$Terms" "ProofDesk$Terms" "blockBinders" "I"), (Jvm.Cond.laysFinal "ProofDesk$Terms" "ProofDesk$Terms" "stack" "LProofDesk$Pile;")] := hw
  simp only [List.mem_cons, List.not_mem_nil, or_false] at h
  rcases h with h | h | h | h | h | h | h | h | h
  · rw [h]; exact kw_188
  · rw [h]; exact kw_190
  · rw [h]; exact kw_192
  · rw [h]; exact kw_194
  · rw [h]; exact kw_196
  · rw [h]; exact kw_198
  · rw [h]; exact kw_200
  · rw [h]; exact kw_202
  · rw [h]; exact kw_204
theorem in_Shelf : ∀ w ∈ u_ws "ProofDesk$Shelf" F_Shelf 11, w ∈ zw := by
  intro w hw
  have h : w ∈ [(Jvm.Cond.laysFinal "ProofDesk$Shelf" "ProofDesk$Shelf" "names" "LProofDesk$Names;"), (Jvm.Cond.laysFinal "ProofDesk$Shelf" "ProofDesk$Shelf" "terms" "LProofDesk$Terms;"), (Jvm.Cond.lays "ProofDesk$Shelf" "ProofDesk$Shelf" "rows" "[I"), (Jvm.Cond.lays "ProofDesk$Shelf" "ProofDesk$Shelf" "count" "I"), (Jvm.Cond.lays "ProofDesk$Shelf" "ProofDesk$Shelf" "pending" "I"), (Jvm.Cond.lays "ProofDesk$Shelf" "ProofDesk$Shelf" "keptNames" "I"), (Jvm.Cond.laysFinal "ProofDesk$Shelf" "ProofDesk$Shelf" "calls" "LProofDesk$Pile;"), (Jvm.Cond.lays "ProofDesk$Shelf" "ProofDesk$Shelf" "reached" "[Z"), (Jvm.Cond.lays "ProofDesk$Shelf" "ProofDesk$Shelf" "searched" "[Z"), (Jvm.Cond.laysFinal "ProofDesk$Shelf" "ProofDesk$Shelf" "open" "LProofDesk$Pile;"), (Jvm.Cond.laysFinal "ProofDesk$Shelf" "ProofDesk$Shelf" "list" "LProofDesk$Pile;")] := hw
  simp only [List.mem_cons, List.not_mem_nil, or_false] at h
  rcases h with h | h | h | h | h | h | h | h | h | h | h
  · rw [h]; exact kw_230
  · rw [h]; exact kw_232
  · rw [h]; exact kw_234
  · rw [h]; exact kw_236
  · rw [h]; exact kw_238
  · rw [h]; exact kw_240
  · rw [h]; exact kw_242
  · rw [h]; exact kw_244
  · rw [h]; exact kw_246
  · rw [h]; exact kw_248
  · rw [h]; exact kw_250
theorem in_Parser : ∀ w ∈ u_ws "ProofDesk$Parser" F_Parser 20, w ∈ zw := by
  intro w hw
  have h : w ∈ [(Jvm.Cond.laysFinal "ProofDesk$Parser" "ProofDesk$Parser" "lexer" "LProofDesk$Lexer;"), (Jvm.Cond.laysFinal "ProofDesk$Parser" "ProofDesk$Parser" "names" "LProofDesk$Names;"), (Jvm.Cond.laysFinal "ProofDesk$Parser" "ProofDesk$Parser" "terms" "LProofDesk$Terms;"), (Jvm.Cond.laysFinal "ProofDesk$Parser" "ProofDesk$Parser" "shelf" "LProofDesk$Shelf;"), (Jvm.Cond.laysFinal "ProofDesk$Parser" "ProofDesk$Parser" "ledger" "LProofDesk$Ledger;"), (Jvm.Cond.laysFinal "ProofDesk$Parser" "ProofDesk$Parser" "frames" "LProofDesk$Pile;"), (Jvm.Cond.laysFinal "ProofDesk$Parser" "ProofDesk$Parser" "waiting" "LProofDesk$Pile;"), (Jvm.Cond.lays "ProofDesk$Parser" "ProofDesk$Parser" "mode" "I"), (Jvm.Cond.lays "ProofDesk$Parser" "ProofDesk$Parser" "depth" "I"), (Jvm.Cond.lays "ProofDesk$Parser" "ProofDesk$Parser" "term" "I"), (Jvm.Cond.lays "ProofDesk$Parser" "ProofDesk$Parser" "application" "I"), (Jvm.Cond.lays "ProofDesk$Parser" "ProofDesk$Parser" "place" "I"), (Jvm.Cond.lays "ProofDesk$Parser" "ProofDesk$Parser" "subject" "I"), (Jvm.Cond.lays "ProofDesk$Parser" "ProofDesk$Parser" "word" "I"), (Jvm.Cond.lays "ProofDesk$Parser" "ProofDesk$Parser" "start" "I"), (Jvm.Cond.lays "ProofDesk$Parser" "ProofDesk$Parser" "name" "I"), (Jvm.Cond.laysFinal "ProofDesk$Parser" "ProofDesk$Parser" "bound" "LProofDesk$Pile;"), (Jvm.Cond.lays "ProofDesk$Parser" "ProofDesk$Parser" "told" "I"), (Jvm.Cond.lays "ProofDesk$Parser" "ProofDesk$Parser" "value" "I"), (Jvm.Cond.laysFinal "ProofDesk$Parser" "ProofDesk$Parser" "constructors" "LProofDesk$Pile;")] := hw
  simp only [List.mem_cons, List.not_mem_nil, or_false] at h
  rcases h with h | h | h | h | h | h | h | h | h | h | h | h | h | h | h | h | h | h | h | h
  · rw [h]; exact kw_329
  · rw [h]; exact kw_331
  · rw [h]; exact kw_333
  · rw [h]; exact kw_335
  · rw [h]; exact kw_337
  · rw [h]; exact kw_339
  · rw [h]; exact kw_341
  · rw [h]; exact kw_343
  · rw [h]; exact kw_345
  · rw [h]; exact kw_347
  · rw [h]; exact kw_349
  · rw [h]; exact kw_351
  · rw [h]; exact kw_353
  · rw [h]; exact kw_355
  · rw [h]; exact kw_357
  · rw [h]; exact kw_359
  · rw [h]; exact kw_361
  · rw [h]; exact kw_363
  · rw [h]; exact kw_365
  · rw [h]; exact kw_367
theorem in_Reducer : ∀ w ∈ u_ws "ProofDesk$Reducer" F_Reducer 13, w ∈ zw := by
  intro w hw
  have h : w ∈ [(Jvm.Cond.laysFinal "ProofDesk$Reducer" "ProofDesk$Reducer" "terms" "LProofDesk$Terms;"), (Jvm.Cond.laysFinal "ProofDesk$Reducer" "ProofDesk$Reducer" "shelf" "LProofDesk$Shelf;"), (Jvm.Cond.laysFinal "ProofDesk$Reducer" "ProofDesk$Reducer" "ledger" "LProofDesk$Ledger;"), (Jvm.Cond.lays "ProofDesk$Reducer" "ProofDesk$Reducer" "heap" "[I"), (Jvm.Cond.lays "ProofDesk$Reducer" "ProofDesk$Reducer" "heapTop" "I"), (Jvm.Cond.laysFinal "ProofDesk$Reducer" "ProofDesk$Reducer" "tasks" "LProofDesk$Pile;"), (Jvm.Cond.laysFinal "ProofDesk$Reducer" "ProofDesk$Reducer" "results" "LProofDesk$Pile;"), (Jvm.Cond.laysFinal "ProofDesk$Reducer" "ProofDesk$Reducer" "frames" "LProofDesk$Pile;"), (Jvm.Cond.laysFinal "ProofDesk$Reducer" "ProofDesk$Reducer" "parts" "LProofDesk$Pile;"), (Jvm.Cond.lays "ProofDesk$Reducer" "ProofDesk$Reducer" "mode" "I"), (Jvm.Cond.lays "ProofDesk$Reducer" "ProofDesk$Reducer" "term" "I"), (Jvm.Cond.lays "ProofDesk$Reducer" "ProofDesk$Reducer" "scope" "I"), (Jvm.Cond.lays "ProofDesk$Reducer" "ProofDesk$Reducer" "arguments" "I")] := hw
  simp only [List.mem_cons, List.not_mem_nil, or_false] at h
  rcases h with h | h | h | h | h | h | h | h | h | h | h | h | h
  · rw [h]; exact kw_491
  · rw [h]; exact kw_493
  · rw [h]; exact kw_495
  · rw [h]; exact kw_497
  · rw [h]; exact kw_499
  · rw [h]; exact kw_501
  · rw [h]; exact kw_503
  · rw [h]; exact kw_505
  · rw [h]; exact kw_507
  · rw [h]; exact kw_509
  · rw [h]; exact kw_511
  · rw [h]; exact kw_513
  · rw [h]; exact kw_515
theorem in_Typer : ∀ w ∈ u_ws "ProofDesk$Typer" F_Typer 11, w ∈ zw := by
  intro w hw
  have h : w ∈ [(Jvm.Cond.laysFinal "ProofDesk$Typer" "ProofDesk$Typer" "terms" "LProofDesk$Terms;"), (Jvm.Cond.laysFinal "ProofDesk$Typer" "ProofDesk$Typer" "shelf" "LProofDesk$Shelf;"), (Jvm.Cond.laysFinal "ProofDesk$Typer" "ProofDesk$Typer" "ledger" "LProofDesk$Ledger;"), (Jvm.Cond.laysFinal "ProofDesk$Typer" "ProofDesk$Typer" "tasks" "LProofDesk$Pile;"), (Jvm.Cond.lays "ProofDesk$Typer" "ProofDesk$Typer" "task" "I"), (Jvm.Cond.lays "ProofDesk$Typer" "ProofDesk$Typer" "subject" "I"), (Jvm.Cond.lays "ProofDesk$Typer" "ProofDesk$Typer" "object" "I"), (Jvm.Cond.laysFinal "ProofDesk$Typer" "ProofDesk$Typer" "results" "LProofDesk$Pile;"), (Jvm.Cond.laysFinal "ProofDesk$Typer" "ProofDesk$Typer" "pairs" "LProofDesk$Pile;"), (Jvm.Cond.lays "ProofDesk$Typer" "ProofDesk$Typer" "leftLinks" "[I"), (Jvm.Cond.lays "ProofDesk$Typer" "ProofDesk$Typer" "rightLinks" "[I")] := hw
  simp only [List.mem_cons, List.not_mem_nil, or_false] at h
  rcases h with h | h | h | h | h | h | h | h | h | h | h
  · rw [h]; exact kw_447
  · rw [h]; exact kw_449
  · rw [h]; exact kw_451
  · rw [h]; exact kw_453
  · rw [h]; exact kw_455
  · rw [h]; exact kw_457
  · rw [h]; exact kw_459
  · rw [h]; exact kw_461
  · rw [h]; exact kw_463
  · rw [h]; exact kw_465
  · rw [h]; exact kw_467
theorem in_Declarer : ∀ w ∈ u_ws "ProofDesk$Declarer" F_Declarer 11, w ∈ zw := by
  intro w hw
  have h : w ∈ [(Jvm.Cond.laysFinal "ProofDesk$Declarer" "ProofDesk$Declarer" "declaration" "LProofDesk$Parser;"), (Jvm.Cond.laysFinal "ProofDesk$Declarer" "ProofDesk$Declarer" "typer" "LProofDesk$Typer;"), (Jvm.Cond.laysFinal "ProofDesk$Declarer" "ProofDesk$Declarer" "reducer" "LProofDesk$Reducer;"), (Jvm.Cond.laysFinal "ProofDesk$Declarer" "ProofDesk$Declarer" "printer" "LProofDesk$Printer;"), (Jvm.Cond.laysFinal "ProofDesk$Declarer" "ProofDesk$Declarer" "terms" "LProofDesk$Terms;"), (Jvm.Cond.laysFinal "ProofDesk$Declarer" "ProofDesk$Declarer" "shelf" "LProofDesk$Shelf;"), (Jvm.Cond.laysFinal "ProofDesk$Declarer" "ProofDesk$Declarer" "ledger" "LProofDesk$Ledger;"), (Jvm.Cond.laysFinal "ProofDesk$Declarer" "ProofDesk$Declarer" "telescope" "LProofDesk$Pile;"), (Jvm.Cond.lays "ProofDesk$Declarer" "ProofDesk$Declarer" "family" "I"), (Jvm.Cond.lays "ProofDesk$Declarer" "ProofDesk$Declarer" "familyLevel" "I"), (Jvm.Cond.lays "ProofDesk$Declarer" "ProofDesk$Declarer" "onlyProofs" "Z")] := hw
  simp only [List.mem_cons, List.not_mem_nil, or_false] at h
  rcases h with h | h | h | h | h | h | h | h | h | h | h
  · rw [h]; exact kw_535
  · rw [h]; exact kw_537
  · rw [h]; exact kw_539
  · rw [h]; exact kw_541
  · rw [h]; exact kw_543
  · rw [h]; exact kw_545
  · rw [h]; exact kw_547
  · rw [h]; exact kw_549
  · rw [h]; exact kw_551
  · rw [h]; exact kw_553
  · rw [h]; exact kw_555
theorem in_Printer : ∀ w ∈ u_ws "ProofDesk$Printer" F_Printer 14, w ∈ zw := by
  intro w hw
  have h : w ∈ [(Jvm.Cond.laysFinal "ProofDesk$Printer" "ProofDesk$Printer" "names" "LProofDesk$Names;"), (Jvm.Cond.laysFinal "ProofDesk$Printer" "ProofDesk$Printer" "terms" "LProofDesk$Terms;"), (Jvm.Cond.laysFinal "ProofDesk$Printer" "ProofDesk$Printer" "shelf" "LProofDesk$Shelf;"), (Jvm.Cond.lays "ProofDesk$Printer" "ProofDesk$Printer" "sheet" "[B"), (Jvm.Cond.lays "ProofDesk$Printer" "ProofDesk$Printer" "length" "I"), (Jvm.Cond.lays "ProofDesk$Printer" "ProofDesk$Printer" "full" "Z"), (Jvm.Cond.laysFinal "ProofDesk$Printer" "ProofDesk$Printer" "tasks" "LProofDesk$Pile;"), (Jvm.Cond.laysFinal "ProofDesk$Printer" "ProofDesk$Printer" "used" "LProofDesk$Pile;"), (Jvm.Cond.lays "ProofDesk$Printer" "ProofDesk$Printer" "binderCount" "I"), (Jvm.Cond.lays "ProofDesk$Printer" "ProofDesk$Printer" "scopes" "[I"), (Jvm.Cond.laysFinal "ProofDesk$Printer" "ProofDesk$Printer" "spelling" "[B"), (Jvm.Cond.laysFinal "ProofDesk$Printer" "ProofDesk$Printer" "clashes" "[I"), (Jvm.Cond.lays "ProofDesk$Printer" "ProofDesk$Printer" "search" "I"), (Jvm.Cond.laysFinal "ProofDesk$Printer" "ProofDesk$Printer" "stack" "LProofDesk$Pile;")] := hw
  simp only [List.mem_cons, List.not_mem_nil, or_false] at h
  rcases h with h | h | h | h | h | h | h | h | h | h | h | h | h | h
  · rw [h]; exact kw_394
  · rw [h]; exact kw_396
  · rw [h]; exact kw_398
  · rw [h]; exact kw_400
  · rw [h]; exact kw_402
  · rw [h]; exact kw_404
  · rw [h]; exact kw_406
  · rw [h]; exact kw_408
  · rw [h]; exact kw_410
  · rw [h]; exact kw_412
  · rw [h]; exact kw_414
  · rw [h]; exact kw_416
  · rw [h]; exact kw_418
  · rw [h]; exact kw_420
theorem in_ProofDesk : ∀ w ∈ u_ws "ProofDesk" F_ProofDesk 9, w ∈ zw := by
  intro w hw
  have h : w ∈ [(Jvm.Cond.laysFinal "ProofDesk" "ProofDesk" "ledger" "LProofDesk$Ledger;"), (Jvm.Cond.laysFinal "ProofDesk" "ProofDesk" "names" "LProofDesk$Names;"), (Jvm.Cond.laysFinal "ProofDesk" "ProofDesk" "shelf" "LProofDesk$Shelf;"), (Jvm.Cond.laysFinal "ProofDesk" "ProofDesk" "lexer" "LProofDesk$Lexer;"), (Jvm.Cond.laysFinal "ProofDesk" "ProofDesk" "parser" "LProofDesk$Parser;"), (Jvm.Cond.laysFinal "ProofDesk" "ProofDesk" "printer" "LProofDesk$Printer;"), (Jvm.Cond.laysFinal "ProofDesk" "ProofDesk" "declarer" "LProofDesk$Declarer;"), (Jvm.Cond.lays "ProofDesk" "ProofDesk" "bytes" "[B"), (Jvm.Cond.lays "ProofDesk" "ProofDesk" "byteCount" "I")] := hw
  simp only [List.mem_cons, List.not_mem_nil, or_false] at h
  rcases h with h | h | h | h | h | h | h | h | h
  · rw [h]; exact kw_567
  · rw [h]; exact kw_569
  · rw [h]; exact kw_571
  · rw [h]; exact kw_573
  · rw [h]; exact kw_575
  · rw [h]; exact kw_577
  · rw [h]; exact kw_579
  · rw [h]; exact kw_581
  · rw [h]; exact kw_583
theorem in_MRows : ∀ w ∈ u_ws "ProofDeskModel$Rows" F_MRows 8, w ∈ zw := by
  intro w hw
  have h : w ∈ [(Jvm.Cond.lays "ProofDeskModel$Rows" "ProofDeskModel$Rows" "kind" "[I"), (Jvm.Cond.lays "ProofDeskModel$Rows" "ProofDeskModel$Rows" "value" "[I"), (Jvm.Cond.lays "ProofDeskModel$Rows" "ProofDeskModel$Rows" "name" "[I"), (Jvm.Cond.lays "ProofDeskModel$Rows" "ProofDeskModel$Rows" "size" "[I"), (Jvm.Cond.lays "ProofDeskModel$Rows" "ProofDeskModel$Rows" "place" "[I"), (Jvm.Cond.lays "ProofDeskModel$Rows" "ProofDeskModel$Rows" "kept" "[I"), (Jvm.Cond.lays "ProofDeskModel$Rows" "ProofDeskModel$Rows" "depth" "[I"), (Jvm.Cond.lays "ProofDeskModel$Rows" "ProofDeskModel$Rows" "count" "I")] := hw
  simp only [List.mem_cons, List.not_mem_nil, or_false] at h
  rcases h with h | h | h | h | h | h | h | h
  · rw [h]; exact kw_1765
  · rw [h]; exact kw_1767
  · rw [h]; exact kw_1769
  · rw [h]; exact kw_1771
  · rw [h]; exact kw_1773
  · rw [h]; exact kw_1775
  · rw [h]; exact kw_1777
  · rw [h]; exact kw_1779
theorem in_MGlobals : ∀ w ∈ u_ws "ProofDeskModel$Globals" F_MGlobals 21, w ∈ zw := by
  intro w hw
  have h : w ∈ [(Jvm.Cond.lays "ProofDeskModel$Globals" "ProofDeskModel$Globals" "count" "I"), (Jvm.Cond.lays "ProofDeskModel$Globals" "ProofDeskModel$Globals" "nodes" "I"), (Jvm.Cond.laysFinal "ProofDeskModel$Globals" "ProofDeskModel$Globals" "kind" "[I"), (Jvm.Cond.laysFinal "ProofDeskModel$Globals" "ProofDeskModel$Globals" "name" "[I"), (Jvm.Cond.laysFinal "ProofDeskModel$Globals" "ProofDeskModel$Globals" "start" "[I"), (Jvm.Cond.laysFinal "ProofDeskModel$Globals" "ProofDeskModel$Globals" "type" "[I"), (Jvm.Cond.laysFinal "ProofDeskModel$Globals" "ProofDeskModel$Globals" "value" "[I"), (Jvm.Cond.laysFinal "ProofDeskModel$Globals" "ProofDeskModel$Globals" "size" "[I"), (Jvm.Cond.laysFinal "ProofDeskModel$Globals" "ProofDeskModel$Globals" "family" "[I"), (Jvm.Cond.laysFinal "ProofDeskModel$Globals" "ProofDeskModel$Globals" "parameters" "[I"), (Jvm.Cond.laysFinal "ProofDeskModel$Globals" "ProofDeskModel$Globals" "others" "[I"), (Jvm.Cond.laysFinal "ProofDeskModel$Globals" "ProofDeskModel$Globals" "sort" "[I"), (Jvm.Cond.laysFinal "ProofDeskModel$Globals" "ProofDeskModel$Globals" "constructors" "[I"), (Jvm.Cond.laysFinal "ProofDeskModel$Globals" "ProofDeskModel$Globals" "all" "[Z"), (Jvm.Cond.lays "ProofDeskModel$Globals" "ProofDeskModel$Globals" "recOf" "[I"), (Jvm.Cond.lays "ProofDeskModel$Globals" "ProofDeskModel$Globals" "recAt" "[I"), (Jvm.Cond.lays "ProofDeskModel$Globals" "ProofDeskModel$Globals" "recType" "[I"), (Jvm.Cond.lays "ProofDeskModel$Globals" "ProofDeskModel$Globals" "recYs" "[I"), (Jvm.Cond.lays "ProofDeskModel$Globals" "ProofDeskModel$Globals" "recs" "I"), (Jvm.Cond.laysFinal "ProofDeskModel$Globals" "ProofDeskModel$Globals" "recFrom" "[I"), (Jvm.Cond.laysFinal "ProofDeskModel$Globals" "ProofDeskModel$Globals" "recTo" "[I")] := hw
  simp only [List.mem_cons, List.not_mem_nil, or_false] at h
  rcases h with h | h | h | h | h | h | h | h | h | h | h | h | h | h | h | h | h | h | h | h | h
  · rw [h]; exact kw_1855
  · rw [h]; exact kw_1857
  · rw [h]; exact kw_1859
  · rw [h]; exact kw_1861
  · rw [h]; exact kw_1863
  · rw [h]; exact kw_1865
  · rw [h]; exact kw_1867
  · rw [h]; exact kw_1869
  · rw [h]; exact kw_1871
  · rw [h]; exact kw_1873
  · rw [h]; exact kw_1875
  · rw [h]; exact kw_1877
  · rw [h]; exact kw_1879
  · rw [h]; exact kw_1881
  · rw [h]; exact kw_1883
  · rw [h]; exact kw_1885
  · rw [h]; exact kw_1887
  · rw [h]; exact kw_1889
  · rw [h]; exact kw_1891
  · rw [h]; exact kw_1893
  · rw [h]; exact kw_1895
theorem in_MPlain : ∀ w ∈ u_ws "ProofDeskModel$Plain" F_MPlain 29, w ∈ zw := by
  intro w hw
  have h : w ∈ [(Jvm.Cond.laysFinal "ProofDeskModel$Plain" "ProofDeskModel$Plain" "\x72" "LProofDeskModel$Rows;"), (Jvm.Cond.laysFinal "ProofDeskModel$Plain" "ProofDeskModel$Plain" "g" "LProofDeskModel$Globals;"), (Jvm.Cond.lays "ProofDeskModel$Plain" "ProofDeskModel$Plain" "cost" "I"), (Jvm.Cond.lays "ProofDeskModel$Plain" "ProofDeskModel$Plain" "fuel" "I"), (Jvm.Cond.lays "ProofDeskModel$Plain" "ProofDeskModel$Plain" "eKind" "[I"), (Jvm.Cond.lays "ProofDeskModel$Plain" "ProofDeskModel$Plain" "eTerm" "[I"), (Jvm.Cond.lays "ProofDeskModel$Plain" "ProofDeskModel$Plain" "eEnv" "[I"), (Jvm.Cond.lays "ProofDeskModel$Plain" "ProofDeskModel$Plain" "eNext" "[I"), (Jvm.Cond.lays "ProofDeskModel$Plain" "ProofDeskModel$Plain" "envs" "I"), (Jvm.Cond.lays "ProofDeskModel$Plain" "ProofDeskModel$Plain" "aTerm" "[I"), (Jvm.Cond.lays "ProofDeskModel$Plain" "ProofDeskModel$Plain" "aEnv" "[I"), (Jvm.Cond.lays "ProofDeskModel$Plain" "ProofDeskModel$Plain" "aNext" "[I"), (Jvm.Cond.lays "ProofDeskModel$Plain" "ProofDeskModel$Plain" "args" "I"), (Jvm.Cond.lays "ProofDeskModel$Plain" "ProofDeskModel$Plain" "vKind" "[I"), (Jvm.Cond.lays "ProofDeskModel$Plain" "ProofDeskModel$Plain" "vTerm" "[I"), (Jvm.Cond.lays "ProofDeskModel$Plain" "ProofDeskModel$Plain" "vEnv" "[I"), (Jvm.Cond.lays "ProofDeskModel$Plain" "ProofDeskModel$Plain" "vArgs" "[I"), (Jvm.Cond.lays "ProofDeskModel$Plain" "ProofDeskModel$Plain" "values" "I"), (Jvm.Cond.lays "ProofDeskModel$Plain" "ProofDeskModel$Plain" "bRec" "[I"), (Jvm.Cond.lays "ProofDeskModel$Plain" "ProofDeskModel$Plain" "bYs" "[I"), (Jvm.Cond.lays "ProofDeskModel$Plain" "ProofDeskModel$Plain" "bArg" "[I"), (Jvm.Cond.lays "ProofDeskModel$Plain" "ProofDeskModel$Plain" "brought" "I"), (Jvm.Cond.lays "ProofDeskModel$Plain" "ProofDeskModel$Plain" "waiting" "[I"), (Jvm.Cond.lays "ProofDeskModel$Plain" "ProofDeskModel$Plain" "top" "I"), (Jvm.Cond.lays "ProofDeskModel$Plain" "ProofDeskModel$Plain" "tasks" "[I"), (Jvm.Cond.lays "ProofDeskModel$Plain" "ProofDeskModel$Plain" "task" "I"), (Jvm.Cond.lays "ProofDeskModel$Plain" "ProofDeskModel$Plain" "t" "I"), (Jvm.Cond.lays "ProofDeskModel$Plain" "ProofDeskModel$Plain" "e" "I"), (Jvm.Cond.lays "ProofDeskModel$Plain" "ProofDeskModel$Plain" "list" "I")] := hw
  simp only [List.mem_cons, List.not_mem_nil, or_false] at h
  rcases h with h | h | h | h | h | h | h | h | h | h | h | h | h | h | h | h | h | h | h | h | h | h | h | h | h | h | h | h | h
  · rw [h]; exact kw_1937
  · rw [h]; exact kw_1939
  · rw [h]; exact kw_1941
  · rw [h]; exact kw_1943
  · rw [h]; exact kw_1945
  · rw [h]; exact kw_1947
  · rw [h]; exact kw_1949
  · rw [h]; exact kw_1951
  · rw [h]; exact kw_1953
  · rw [h]; exact kw_1955
  · rw [h]; exact kw_1957
  · rw [h]; exact kw_1959
  · rw [h]; exact kw_1961
  · rw [h]; exact kw_1963
  · rw [h]; exact kw_1965
  · rw [h]; exact kw_1967
  · rw [h]; exact kw_1969
  · rw [h]; exact kw_1971
  · rw [h]; exact kw_1973
  · rw [h]; exact kw_1975
  · rw [h]; exact kw_1977
  · rw [h]; exact kw_1979
  · rw [h]; exact kw_1981
  · rw [h]; exact kw_1983
  · rw [h]; exact kw_1985
  · rw [h]; exact kw_1987
  · rw [h]; exact kw_1989
  · rw [h]; exact kw_1991
  · rw [h]; exact kw_1993
theorem in_MRules : ∀ w ∈ u_ws "ProofDeskModel$Rules" F_MRules 33, w ∈ zw := by
  intro w hw
  have h : w ∈ [(Jvm.Cond.laysFinal "ProofDeskModel$Rules" "ProofDeskModel$Rules" "\x72" "LProofDeskModel$Rows;"), (Jvm.Cond.laysFinal "ProofDeskModel$Rules" "ProofDeskModel$Rules" "g" "LProofDeskModel$Globals;"), (Jvm.Cond.laysFinal "ProofDeskModel$Rules" "ProofDeskModel$Rules" "plain" "LProofDeskModel$Plain;"), (Jvm.Cond.laysFinal "ProofDeskModel$Rules" "ProofDeskModel$Rules" "nameM" "I"), (Jvm.Cond.laysFinal "ProofDeskModel$Rules" "ProofDeskModel$Rules" "nameX" "I"), (Jvm.Cond.lays "ProofDeskModel$Rules" "ProofDeskModel$Rules" "tk" "[I"), (Jvm.Cond.lays "ProofDeskModel$Rules" "ProofDeskModel$Rules" "tp" "[I"), (Jvm.Cond.lays "ProofDeskModel$Rules" "ProofDeskModel$Rules" "tv" "[I"), (Jvm.Cond.lays "ProofDeskModel$Rules" "ProofDeskModel$Rules" "ts" "[I"), (Jvm.Cond.lays "ProofDeskModel$Rules" "ProofDeskModel$Rules" "tm" "[I"), (Jvm.Cond.lays "ProofDeskModel$Rules" "ProofDeskModel$Rules" "known" "[I"), (Jvm.Cond.lays "ProofDeskModel$Rules" "ProofDeskModel$Rules" "depth" "I"), (Jvm.Cond.lays "ProofDeskModel$Rules" "ProofDeskModel$Rules" "env" "I"), (Jvm.Cond.lays "ProofDeskModel$Rules" "ProofDeskModel$Rules" "hKind" "[I"), (Jvm.Cond.lays "ProofDeskModel$Rules" "ProofDeskModel$Rules" "hName" "[I"), (Jvm.Cond.lays "ProofDeskModel$Rules" "ProofDeskModel$Rules" "hType" "[I"), (Jvm.Cond.lays "ProofDeskModel$Rules" "ProofDeskModel$Rules" "hSort" "[I"), (Jvm.Cond.lays "ProofDeskModel$Rules" "ProofDeskModel$Rules" "hLevel" "[I"), (Jvm.Cond.lays "ProofDeskModel$Rules" "ProofDeskModel$Rules" "hUnder" "[I"), (Jvm.Cond.lays "ProofDeskModel$Rules" "ProofDeskModel$Rules" "chain" "I"), (Jvm.Cond.lays "ProofDeskModel$Rules" "ProofDeskModel$Rules" "which" "[I"), (Jvm.Cond.lays "ProofDeskModel$Rules" "ProofDeskModel$Rules" "tasks" "[I"), (Jvm.Cond.lays "ProofDeskModel$Rules" "ProofDeskModel$Rules" "task" "I"), (Jvm.Cond.lays "ProofDeskModel$Rules" "ProofDeskModel$Rules" "levels" "[I"), (Jvm.Cond.lays "ProofDeskModel$Rules" "ProofDeskModel$Rules" "reason" "I"), (Jvm.Cond.lays "ProofDeskModel$Rules" "ProofDeskModel$Rules" "place" "I"), (Jvm.Cond.lays "ProofDeskModel$Rules" "ProofDeskModel$Rules" "printed" "I"), (Jvm.Cond.laysFinal "ProofDeskModel$Rules" "ProofDeskModel$Rules" "rows" "[I"), (Jvm.Cond.laysFinal "ProofDeskModel$Rules" "ProofDeskModel$Rules" "names" "[I"), (Jvm.Cond.laysFinal "ProofDeskModel$Rules" "ProofDeskModel$Rules" "many" "[I"), (Jvm.Cond.lays "ProofDeskModel$Rules" "ProofDeskModel$Rules" "tooMany" "Z"), (Jvm.Cond.lays "ProofDeskModel$Rules" "ProofDeskModel$Rules" "lastSort" "I"), (Jvm.Cond.lays "ProofDeskModel$Rules" "ProofDeskModel$Rules" "lastMany" "I")] := hw
  simp only [List.mem_cons, List.not_mem_nil, or_false] at h
  rcases h with h | h | h | h | h | h | h | h | h | h | h | h | h | h | h | h | h | h | h | h | h | h | h | h | h | h | h | h | h | h | h | h | h
  · rw [h]; exact kw_2057
  · rw [h]; exact kw_2059
  · rw [h]; exact kw_2061
  · rw [h]; exact kw_2063
  · rw [h]; exact kw_2065
  · rw [h]; exact kw_2067
  · rw [h]; exact kw_2069
  · rw [h]; exact kw_2071
  · rw [h]; exact kw_2073
  · rw [h]; exact kw_2075
  · rw [h]; exact kw_2077
  · rw [h]; exact kw_2079
  · rw [h]; exact kw_2081
  · rw [h]; exact kw_2083
  · rw [h]; exact kw_2085
  · rw [h]; exact kw_2087
  · rw [h]; exact kw_2089
  · rw [h]; exact kw_2091
  · rw [h]; exact kw_2093
  · rw [h]; exact kw_2095
  · rw [h]; exact kw_2097
  · rw [h]; exact kw_2099
  · rw [h]; exact kw_2101
  · rw [h]; exact kw_2103
  · rw [h]; exact kw_2105
  · rw [h]; exact kw_2107
  · rw [h]; exact kw_2109
  · rw [h]; exact kw_2111
  · rw [h]; exact kw_2113
  · rw [h]; exact kw_2115
  · rw [h]; exact kw_2117
  · rw [h]; exact kw_2119
  · rw [h]; exact kw_2121
theorem in_ProofDeskModel : ∀ w ∈ u_ws "ProofDeskModel" F_ProofDeskModel 56, w ∈ zw := by
  intro w hw
  have h : w ∈ [(Jvm.Cond.laysFinal "ProofDeskModel" "ProofDeskModel" "words" "[Ljava/lang/String;"), (Jvm.Cond.laysFinal "ProofDeskModel" "ProofDeskModel" "bytes" "[I"), (Jvm.Cond.lays "ProofDeskModel" "ProofDeskModel" "size" "I"), (Jvm.Cond.lays "ProofDeskModel" "ProofDeskModel" "end" "I"), (Jvm.Cond.lays "ProofDeskModel" "ProofDeskModel" "token" "[I"), (Jvm.Cond.lays "ProofDeskModel" "ProofDeskModel" "place" "[I"), (Jvm.Cond.lays "ProofDeskModel" "ProofDeskModel" "length" "[I"), (Jvm.Cond.lays "ProofDeskModel" "ProofDeskModel" "tokens" "I"), (Jvm.Cond.lays "ProofDeskModel" "ProofDeskModel" "at" "I"), (Jvm.Cond.lays "ProofDeskModel" "ProofDeskModel" "scanned" "I"), (Jvm.Cond.lays "ProofDeskModel" "ProofDeskModel" "bad" "Z"), (Jvm.Cond.lays "ProofDeskModel" "ProofDeskModel" "fault" "I"), (Jvm.Cond.lays "ProofDeskModel" "ProofDeskModel" "kindOf" "[I"), (Jvm.Cond.lays "ProofDeskModel" "ProofDeskModel" "placeOf" "[I"), (Jvm.Cond.lays "ProofDeskModel" "ProofDeskModel" "valueOf" "[I"), (Jvm.Cond.lays "ProofDeskModel" "ProofDeskModel" "firstOf" "[I"), (Jvm.Cond.lays "ProofDeskModel" "ProofDeskModel" "lastOf" "[I"), (Jvm.Cond.lays "ProofDeskModel" "ProofDeskModel" "nextOf" "[I"), (Jvm.Cond.lays "ProofDeskModel" "ProofDeskModel" "drafts" "I"), (Jvm.Cond.lays "ProofDeskModel" "ProofDeskModel" "pile" "[I"), (Jvm.Cond.lays "ProofDeskModel" "ProofDeskModel" "kind" "[I"), (Jvm.Cond.lays "ProofDeskModel" "ProofDeskModel" "where" "[I"), (Jvm.Cond.lays "ProofDeskModel" "ProofDeskModel" "value" "[I"), (Jvm.Cond.lays "ProofDeskModel" "ProofDeskModel" "whole" "[I"), (Jvm.Cond.lays "ProofDeskModel" "ProofDeskModel" "sizes" "[I"), (Jvm.Cond.lays "ProofDeskModel" "ProofDeskModel" "means" "[I"), (Jvm.Cond.lays "ProofDeskModel" "ProofDeskModel" "count" "I"), (Jvm.Cond.lays "ProofDeskModel" "ProofDeskModel" "letters" "[I"), (Jvm.Cond.lays "ProofDeskModel" "ProofDeskModel" "starts" "[I"), (Jvm.Cond.lays "ProofDeskModel" "ProofDeskModel" "names" "I"), (Jvm.Cond.lays "ProofDeskModel" "ProofDeskModel" "between" "I"), (Jvm.Cond.lays "ProofDeskModel" "ProofDeskModel" "met" "Z"), (Jvm.Cond.laysFinal "ProofDeskModel" "ProofDeskModel" "rows" "LProofDeskModel$Rows;"), (Jvm.Cond.laysFinal "ProofDeskModel" "ProofDeskModel" "globals" "LProofDeskModel$Globals;"), (Jvm.Cond.laysFinal "ProofDeskModel" "ProofDeskModel" "plain" "LProofDeskModel$Plain;"), (Jvm.Cond.laysFinal "ProofDeskModel" "ProofDeskModel" "rules" "LProofDeskModel$Rules;"), (Jvm.Cond.laysFinal "ProofDeskModel" "ProofDeskModel" "nameX" "I"), (Jvm.Cond.lays "ProofDeskModel" "ProofDeskModel" "fuel" "I"), (Jvm.Cond.lays "ProofDeskModel" "ProofDeskModel" "reason" "I"), (Jvm.Cond.lays "ProofDeskModel" "ProofDeskModel" "reasonPlace" "I"), (Jvm.Cond.lays "ProofDeskModel" "ProofDeskModel" "verdicts" "[I"), (Jvm.Cond.lays "ProofDeskModel" "ProofDeskModel" "told" "I"), (Jvm.Cond.laysFinal "ProofDeskModel" "ProofDeskModel" "paper" "[I"), (Jvm.Cond.lays "ProofDeskModel" "ProofDeskModel" "paperSize" "I"), (Jvm.Cond.lays "ProofDeskModel" "ProofDeskModel" "line" "I"), (Jvm.Cond.laysFinal "ProofDeskModel" "ProofDeskModel" "leaned" "[Z"), (Jvm.Cond.laysFinal "ProofDeskModel" "ProofDeskModel" "looked" "[Z"), (Jvm.Cond.lays "ProofDeskModel" "ProofDeskModel" "binder" "[I"), (Jvm.Cond.lays "ProofDeskModel" "ProofDeskModel" "called" "[I"), (Jvm.Cond.lays "ProofDeskModel" "ProofDeskModel" "numbered" "[I"), (Jvm.Cond.lays "ProofDeskModel" "ProofDeskModel" "inner" "[I"), (Jvm.Cond.laysFinal "ProofDeskModel" "ProofDeskModel" "spelling" "[I"), (Jvm.Cond.lays "ProofDeskModel" "ProofDeskModel" "taken" "[I"), (Jvm.Cond.lays "ProofDeskModel" "ProofDeskModel" "time" "I"), (Jvm.Cond.lays "ProofDeskModel" "ProofDeskModel" "mostTaken" "I"), (Jvm.Cond.lays "ProofDeskModel" "ProofDeskModel" "pushed" "I")] := hw
  simp only [List.mem_cons, List.not_mem_nil, or_false] at h
  rcases h with h | h | h | h | h | h | h | h | h | h | h | h | h | h | h | h | h | h | h | h | h | h | h | h | h | h | h | h | h | h | h | h | h | h | h | h | h | h | h | h | h | h | h | h | h | h | h | h | h | h | h | h | h | h | h | h
  · rw [h]; exact kw_2180
  · rw [h]; exact kw_2182
  · rw [h]; exact kw_2184
  · rw [h]; exact kw_2186
  · rw [h]; exact kw_2188
  · rw [h]; exact kw_2190
  · rw [h]; exact kw_2192
  · rw [h]; exact kw_2194
  · rw [h]; exact kw_2196
  · rw [h]; exact kw_2198
  · rw [h]; exact kw_2200
  · rw [h]; exact kw_2202
  · rw [h]; exact kw_2204
  · rw [h]; exact kw_2206
  · rw [h]; exact kw_2208
  · rw [h]; exact kw_2210
  · rw [h]; exact kw_2212
  · rw [h]; exact kw_2214
  · rw [h]; exact kw_2216
  · rw [h]; exact kw_2218
  · rw [h]; exact kw_2220
  · rw [h]; exact kw_2222
  · rw [h]; exact kw_2224
  · rw [h]; exact kw_2226
  · rw [h]; exact kw_2228
  · rw [h]; exact kw_2230
  · rw [h]; exact kw_2232
  · rw [h]; exact kw_2234
  · rw [h]; exact kw_2236
  · rw [h]; exact kw_2238
  · rw [h]; exact kw_2240
  · rw [h]; exact kw_2242
  · rw [h]; exact kw_2244
  · rw [h]; exact kw_2246
  · rw [h]; exact kw_2248
  · rw [h]; exact kw_2250
  · rw [h]; exact kw_2252
  · rw [h]; exact kw_2254
  · rw [h]; exact kw_2256
  · rw [h]; exact kw_2258
  · rw [h]; exact kw_2260
  · rw [h]; exact kw_2262
  · rw [h]; exact kw_2264
  · rw [h]; exact kw_2266
  · rw [h]; exact kw_2268
  · rw [h]; exact kw_2270
  · rw [h]; exact kw_2272
  · rw [h]; exact kw_2274
  · rw [h]; exact kw_2276
  · rw [h]; exact kw_2278
  · rw [h]; exact kw_2280
  · rw [h]; exact kw_2282
  · rw [h]; exact kw_2284
  · rw [h]; exact kw_2286
  · rw [h]; exact kw_2288
  · rw [h]; exact kw_2290
