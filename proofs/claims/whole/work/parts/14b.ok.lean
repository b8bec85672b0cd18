set_option maxRecDepth 1000000 in
theorem ok_Rounds_dropThoseOf : xa_okT xa_ms m_Rounds_dropThoseOf = true := by decide +kernel
set_option maxRecDepth 1000000 in
theorem ok_Rounds_hasToGo : xa_okT xa_ms m_Rounds_hasToGo = true := by decide +kernel
set_option maxRecDepth 1000000 in
theorem ok_Rounds_sideOf : xa_okT xa_ms m_Rounds_sideOf = true := by decide +kernel
set_option maxRecDepth 1000000 in
theorem ok_Saying_init : xa_okT xa_ms m_Saying_init = true := by decide +kernel
set_option maxRecDepth 1000000 in
theorem ok_Saying_bits : xa_okT xa_ms m_Saying_bits = true := by decide +kernel
set_option maxRecDepth 1000000 in
theorem ok_Saying_reset : xa_okT xa_ms m_Saying_reset = true := by decide +kernel
set_option maxRecDepth 1000000 in
theorem ok_Saying_become : xa_okT xa_ms m_Saying_become = true := by decide +kernel
set_option maxRecDepth 1000000 in
theorem ok_Saying_add : xa_okT xa_ms m_Saying_add = true := by decide +kernel
set_option maxRecDepth 1000000 in
theorem ok_Saying_valueOf : xa_okT xa_ms m_Saying_valueOf = true := by decide +kernel
set_option maxRecDepth 1000000 in
theorem ok_Saying_valuesIn : xa_okT xa_ms m_Saying_valuesIn = true := by decide +kernel
set_option maxRecDepth 1000000 in
theorem ok_Saying_valuesOf : xa_okT xa_ms m_Saying_valuesOf = true := by decide +kernel
set_option maxRecDepth 1000000 in
theorem ok_Saying_overSome : xa_okT xa_ms m_Saying_overSome = true := by decide +kernel
set_option maxRecDepth 1000000 in
theorem ok_Saying_overEach : xa_okT xa_ms m_Saying_overEach = true := by decide +kernel
set_option maxRecDepth 1000000 in
theorem ok_Saying_valuesFrom : xa_okT xa_ms m_Saying_valuesFrom = true := by decide +kernel
set_option maxRecDepth 1000000 in
theorem ok_Saying_someOf : xa_okT xa_ms m_Saying_someOf = true := by decide +kernel
set_option maxRecDepth 1000000 in
theorem ok_Saying_soOf : xa_okT xa_ms m_Saying_soOf = true := by decide +kernel
set_option maxRecDepth 1000000 in
theorem ok_Saying_push : xa_okT xa_ms m_Saying_push = true := by decide +kernel
set_option maxRecDepth 1000000 in
theorem ok_Saying_pop : xa_okT xa_ms m_Saying_pop = true := by decide +kernel
set_option maxRecDepth 1000000 in
theorem ok_Shrinker_init : xa_okT xa_ms m_Shrinker_init = true := by decide +kernel
set_option maxRecDepth 1000000 in
theorem ok_Shrinker_shrink : xa_okT xa_ms m_Shrinker_shrink = true := by decide +kernel
set_option maxRecDepth 1000000 in
theorem ok_Shrinker_findLeast : xa_okT xa_ms m_Shrinker_findLeast = true := by decide +kernel
set_option maxRecDepth 1000000 in
theorem ok_Shrinker_reachedIn : xa_okT xa_ms m_Shrinker_reachedIn = true := by decide +kernel
set_option maxRecDepth 1000000 in
theorem ok_Shrinker_nextOf : xa_okT xa_ms m_Shrinker_nextOf = true := by decide +kernel
set_option maxRecDepth 1000000 in
theorem ok_Shrinker_carryArrows : xa_okT xa_ms m_Shrinker_carryArrows = true := by decide +kernel
set_option maxRecDepth 1000000 in
theorem ok_Shrinker_rankIn : xa_okT xa_ms m_Shrinker_rankIn = true := by decide +kernel
set_option maxRecDepth 1000000 in
theorem ok_Text_init : xa_okT xa_ms m_Text_init = true := by decide +kernel
set_option maxRecDepth 1000000 in
theorem ok_Text_size : xa_okT xa_ms m_Text_size = true := by decide +kernel
set_option maxRecDepth 1000000 in
theorem ok_Text_drain : xa_okT xa_ms m_Text_drain = true := by decide +kernel
set_option maxRecDepth 1000000 in
theorem ok_Text_append : xa_okT xa_ms m_Text_append = true := by decide +kernel
set_option maxRecDepth 1000000 in
theorem ok_Text_byteAt : xa_okT xa_ms m_Text_byteAt = true := by decide +kernel
set_option maxRecDepth 1000000 in
theorem ok_Text_spells : xa_okT xa_ms m_Text_spells = true := by decide +kernel
set_option maxRecDepth 1000000 in
theorem ok_Tokens_init : xa_okT xa_ms m_Tokens_init = true := by decide +kernel
set_option maxRecDepth 1000000 in
theorem ok_Tokens_split : xa_okT xa_ms m_Tokens_split = true := by decide +kernel
set_option maxRecDepth 1000000 in
theorem ok_Tokens_kind : xa_okT xa_ms m_Tokens_kind = true := by decide +kernel
set_option maxRecDepth 1000000 in
theorem ok_Tokens_place : xa_okT xa_ms m_Tokens_place = true := by decide +kernel
set_option maxRecDepth 1000000 in
theorem ok_Tokens_advance : xa_okT xa_ms m_Tokens_advance = true := by decide +kernel
set_option maxRecDepth 1000000 in
theorem ok_Tokens_take : xa_okT xa_ms m_Tokens_take = true := by decide +kernel
set_option maxRecDepth 1000000 in
theorem ok_Tokens_takeWorth : xa_okT xa_ms m_Tokens_takeWorth = true := by decide +kernel
set_option maxRecDepth 1000000 in
theorem ok_Tokens_cut : xa_okT xa_ms m_Tokens_cut = true := by decide +kernel
set_option maxRecDepth 1000000 in
theorem ok_Tokens_cutNumber : xa_okT xa_ms m_Tokens_cutNumber = true := by decide +kernel
set_option maxRecDepth 1000000 in
theorem ok_Tokens_cutWord : xa_okT xa_ms m_Tokens_cutWord = true := by decide +kernel
set_option maxRecDepth 1000000 in
theorem ok_Tokens_kindOfWord : xa_okT xa_ms m_Tokens_kindOfWord = true := by decide +kernel
set_option maxRecDepth 1000000 in
theorem ok_Tokens_keep : xa_okT xa_ms m_Tokens_keep = true := by decide +kernel
set_option maxRecDepth 1000000 in
theorem ok_Tokens_isDigit : xa_okT xa_ms m_Tokens_isDigit = true := by decide +kernel
set_option maxRecDepth 1000000 in
theorem ok_Tokens_isWordLetter : xa_okT xa_ms m_Tokens_isWordLetter = true := by decide +kernel
set_option maxRecDepth 1000000 in
theorem ok_Walker_init : xa_okT xa_ms m_Walker_init = true := by decide +kernel
set_option maxRecDepth 1000000 in
theorem ok_Walker_restart : xa_okT xa_ms m_Walker_restart = true := by decide +kernel
set_option maxRecDepth 1000000 in
theorem ok_Walker_where : xa_okT xa_ms m_Walker_where = true := by decide +kernel
set_option maxRecDepth 1000000 in
theorem ok_Walker_gone : xa_okT xa_ms m_Walker_gone = true := by decide +kernel
